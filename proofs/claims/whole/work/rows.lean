section
-- ===== PART A: goes FIRST, ahead of the names: the tables' words, and 'selects' of the private methods out of them =====
/-- a private method of a class that the tables say can be made, by its rows of tables_1 -/
def lw_okq (q : MethodName × Nat) : Prop := (q.1.cls ≠ "java/lang/invoke/MethodHandle" ∧ q.1.cls ≠ "java/lang/invoke/VarHandle") ∧ Cond.instantiable q.1.cls q.2 ∈ tables_1 ∧ Cond.privateMethod q.1 ∈ tables_1 ∧ Cond.instanceMethod q.1 ∈ tables_1
theorem lw_p0 : lw_okq (⟨"ThingsThrown", "found", "(I)I"⟩, 13) := ⟨⟨by decide +kernel, by decide +kernel⟩, List.mem_of_getElem? (i := 14) (by decide +kernel), List.mem_of_getElem? (i := 197) (by decide +kernel), List.mem_of_getElem? (i := 198) (by decide +kernel)⟩
theorem lw_p1 : lw_okq (⟨"ThingsThrown", "refusalOfPlace", "(II)I"⟩, 13) := ⟨⟨by decide +kernel, by decide +kernel⟩, List.mem_of_getElem? (i := 14) (by decide +kernel), List.mem_of_getElem? (i := 215) (by decide +kernel), List.mem_of_getElem? (i := 216) (by decide +kernel)⟩
theorem lw_p2 : lw_okq (⟨"ThingsThrown", "refusalOfRow", "(I)I"⟩, 13) := ⟨⟨by decide +kernel, by decide +kernel⟩, List.mem_of_getElem? (i := 14) (by decide +kernel), List.mem_of_getElem? (i := 219) (by decide +kernel), List.mem_of_getElem? (i := 220) (by decide +kernel)⟩
theorem lw_p3 : lw_okq (⟨"ThingsThrown", "tell", "(I)I"⟩, 13) := ⟨⟨by decide +kernel, by decide +kernel⟩, List.mem_of_getElem? (i := 14) (by decide +kernel), List.mem_of_getElem? (i := 231) (by decide +kernel), List.mem_of_getElem? (i := 232) (by decide +kernel)⟩
theorem lw_p4 : lw_okq (⟨"ThingsThrown", "refusalOfText", "(I)I"⟩, 13) := ⟨⟨by decide +kernel, by decide +kernel⟩, List.mem_of_getElem? (i := 14) (by decide +kernel), List.mem_of_getElem? (i := 269) (by decide +kernel), List.mem_of_getElem? (i := 270) (by decide +kernel)⟩
theorem lw_p5 : lw_okq (⟨"ThingsThrown$Telling", "isFreeFigure", "(I)Z"⟩, 2) := ⟨⟨by decide +kernel, by decide +kernel⟩, List.mem_of_getElem? (i := 24) (by decide +kernel), List.mem_of_getElem? (i := 290) (by decide +kernel), List.mem_of_getElem? (i := 291) (by decide +kernel)⟩
theorem lw_p6 : lw_okq (⟨"ThingsThrown", "isThing", "(I)Z"⟩, 13) := ⟨⟨by decide +kernel, by decide +kernel⟩, List.mem_of_getElem? (i := 14) (by decide +kernel), List.mem_of_getElem? (i := 325) (by decide +kernel), List.mem_of_getElem? (i := 326) (by decide +kernel)⟩
theorem lw_p7 : lw_okq (⟨"ThingsThrown", "ofThing", "(II)I"⟩, 13) := ⟨⟨by decide +kernel, by decide +kernel⟩, List.mem_of_getElem? (i := 14) (by decide +kernel), List.mem_of_getElem? (i := 329) (by decide +kernel), List.mem_of_getElem? (i := 330) (by decide +kernel)⟩
theorem lw_p8 : lw_okq (⟨"ThingsThrown", "enterThrow", "(I)V"⟩, 13) := ⟨⟨by decide +kernel, by decide +kernel⟩, List.mem_of_getElem? (i := 14) (by decide +kernel), List.mem_of_getElem? (i := 393) (by decide +kernel), List.mem_of_getElem? (i := 394) (by decide +kernel)⟩
theorem lw_p9 : lw_okq (⟨"ThingsThrown", "skyNow", "()I"⟩, 13) := ⟨⟨by decide +kernel, by decide +kernel⟩, List.mem_of_getElem? (i := 14) (by decide +kernel), List.mem_of_getElem? (i := 417) (by decide +kernel), List.mem_of_getElem? (i := 418) (by decide +kernel)⟩
theorem lw_p10 : lw_okq (⟨"ThingsThrown", "enterRest", "()V"⟩, 13) := ⟨⟨by decide +kernel, by decide +kernel⟩, List.mem_of_getElem? (i := 14) (by decide +kernel), List.mem_of_getElem? (i := 426) (by decide +kernel), List.mem_of_getElem? (i := 427) (by decide +kernel)⟩
theorem lw_p11 : lw_okq (⟨"ThingsThrown", "enterExchange", "(II)V"⟩, 13) := ⟨⟨by decide +kernel, by decide +kernel⟩, List.mem_of_getElem? (i := 14) (by decide +kernel), List.mem_of_getElem? (i := 435) (by decide +kernel), List.mem_of_getElem? (i := 436) (by decide +kernel)⟩
theorem lw_p12 : lw_okq (⟨"ThingsThrown", "refusalOfThrows", "(III)I"⟩, 13) := ⟨⟨by decide +kernel, by decide +kernel⟩, List.mem_of_getElem? (i := 14) (by decide +kernel), List.mem_of_getElem? (i := 484) (by decide +kernel), List.mem_of_getElem? (i := 485) (by decide +kernel)⟩
theorem lw_p13 : lw_okq (⟨"ThingsThrown$Outlook", "comesToDues", "(II)Z"⟩, 4) := ⟨⟨by decide +kernel, by decide +kernel⟩, List.mem_of_getElem? (i := 92) (by decide +kernel), List.mem_of_getElem? (i := 512) (by decide +kernel), List.mem_of_getElem? (i := 513) (by decide +kernel)⟩
theorem lw_p14 : lw_okq (⟨"ThingsThrown$Outlook", "leadsTo", "(IIII)Z"⟩, 4) := ⟨⟨by decide +kernel, by decide +kernel⟩, List.mem_of_getElem? (i := 92) (by decide +kernel), List.mem_of_getElem? (i := 536) (by decide +kernel), List.mem_of_getElem? (i := 537) (by decide +kernel)⟩
theorem lw_p15 : lw_okq (⟨"ThingsThrown$Outlook", "comesToSky", "(II)Z"⟩, 4) := ⟨⟨by decide +kernel, by decide +kernel⟩, List.mem_of_getElem? (i := 92) (by decide +kernel), List.mem_of_getElem? (i := 540) (by decide +kernel), List.mem_of_getElem? (i := 541) (by decide +kernel)⟩
def lw_privs_1 : List (MethodName × Nat) := [(⟨"ThingsThrown", "found", "(I)I"⟩, 13), (⟨"ThingsThrown", "refusalOfPlace", "(II)I"⟩, 13), (⟨"ThingsThrown", "refusalOfRow", "(I)I"⟩, 13), (⟨"ThingsThrown", "tell", "(I)I"⟩, 13), (⟨"ThingsThrown", "refusalOfText", "(I)I"⟩, 13), (⟨"ThingsThrown$Telling", "isFreeFigure", "(I)Z"⟩, 2), (⟨"ThingsThrown", "isThing", "(I)Z"⟩, 13), (⟨"ThingsThrown", "ofThing", "(II)I"⟩, 13), (⟨"ThingsThrown", "enterThrow", "(I)V"⟩, 13), (⟨"ThingsThrown", "skyNow", "()I"⟩, 13), (⟨"ThingsThrown", "enterRest", "()V"⟩, 13), (⟨"ThingsThrown", "enterExchange", "(II)V"⟩, 13), (⟨"ThingsThrown", "refusalOfThrows", "(III)I"⟩, 13), (⟨"ThingsThrown$Outlook", "comesToDues", "(II)Z"⟩, 4), (⟨"ThingsThrown$Outlook", "leadsTo", "(IIII)Z"⟩, 4), (⟨"ThingsThrown$Outlook", "comesToSky", "(II)Z"⟩, 4)]
theorem lw_r1 : ∀ q ∈ lw_privs_1, lw_okq q := List.forall_mem_cons.mpr ⟨lw_p0, List.forall_mem_cons.mpr ⟨lw_p1, List.forall_mem_cons.mpr ⟨lw_p2, List.forall_mem_cons.mpr ⟨lw_p3, List.forall_mem_cons.mpr ⟨lw_p4, List.forall_mem_cons.mpr ⟨lw_p5, List.forall_mem_cons.mpr ⟨lw_p6, List.forall_mem_cons.mpr ⟨lw_p7, List.forall_mem_cons.mpr ⟨lw_p8, List.forall_mem_cons.mpr ⟨lw_p9, List.forall_mem_cons.mpr ⟨lw_p10, List.forall_mem_cons.mpr ⟨lw_p11, List.forall_mem_cons.mpr ⟨lw_p12, List.forall_mem_cons.mpr ⟨lw_p13, List.forall_mem_cons.mpr ⟨lw_p14, List.forall_mem_cons.mpr ⟨lw_p15, fun _ h => absurd h List.not_mem_nil⟩⟩⟩⟩⟩⟩⟩⟩⟩⟩⟩⟩⟩⟩⟩⟩
theorem lw_p16 : lw_okq (⟨"ThingsThrown$Outlook", "waysTo", "(III)J"⟩, 4) := ⟨⟨by decide +kernel, by decide +kernel⟩, List.mem_of_getElem? (i := 92) (by decide +kernel), List.mem_of_getElem? (i := 554) (by decide +kernel), List.mem_of_getElem? (i := 555) (by decide +kernel)⟩
theorem lw_p17 : lw_okq (⟨"ThingsThrown", "tellRatio", "(JJ)I"⟩, 13) := ⟨⟨by decide +kernel, by decide +kernel⟩, List.mem_of_getElem? (i := 14) (by decide +kernel), List.mem_of_getElem? (i := 558) (by decide +kernel), List.mem_of_getElem? (i := 559) (by decide +kernel)⟩
theorem lw_p18 : lw_okq (⟨"ThingsThrown", "refusalOfPairs", "(II)I"⟩, 13) := ⟨⟨by decide +kernel, by decide +kernel⟩, List.mem_of_getElem? (i := 14) (by decide +kernel), List.mem_of_getElem? (i := 577) (by decide +kernel), List.mem_of_getElem? (i := 578) (by decide +kernel)⟩
theorem lw_p19 : lw_okq (⟨"ThingsThrown$Outlook", "bestFrom", "(II)I"⟩, 4) := ⟨⟨by decide +kernel, by decide +kernel⟩, List.mem_of_getElem? (i := 92) (by decide +kernel), List.mem_of_getElem? (i := 609) (by decide +kernel), List.mem_of_getElem? (i := 610) (by decide +kernel)⟩
theorem lw_p20 : lw_okq (⟨"ThingsThrown", "refusalOfChances", "(II)I"⟩, 13) := ⟨⟨by decide +kernel, by decide +kernel⟩, List.mem_of_getElem? (i := 14) (by decide +kernel), List.mem_of_getElem? (i := 625) (by decide +kernel), List.mem_of_getElem? (i := 626) (by decide +kernel)⟩
theorem lw_p21 : lw_okq (⟨"ThingsThrown$Chances", "weightFrom", "(ILThingsThrown$Sheet;IIZ)J"⟩, 1) := ⟨⟨by decide +kernel, by decide +kernel⟩, List.mem_of_getElem? (i := 114) (by decide +kernel), List.mem_of_getElem? (i := 633) (by decide +kernel), List.mem_of_getElem? (i := 634) (by decide +kernel)⟩
theorem lw_p22 : lw_okq (⟨"ThingsThrown", "enterByLot", "(I)V"⟩, 13) := ⟨⟨by decide +kernel, by decide +kernel⟩, List.mem_of_getElem? (i := 14) (by decide +kernel), List.mem_of_getElem? (i := 661) (by decide +kernel), List.mem_of_getElem? (i := 662) (by decide +kernel)⟩
theorem lw_p23 : lw_okq (⟨"ThingsThrown", "enterThrowFrom", "(I)V"⟩, 13) := ⟨⟨by decide +kernel, by decide +kernel⟩, List.mem_of_getElem? (i := 14) (by decide +kernel), List.mem_of_getElem? (i := 665) (by decide +kernel), List.mem_of_getElem? (i := 666) (by decide +kernel)⟩
theorem lw_p24 : lw_okq (⟨"ThingsThrown", "skiesKept", "()I"⟩, 13) := ⟨⟨by decide +kernel, by decide +kernel⟩, List.mem_of_getElem? (i := 14) (by decide +kernel), List.mem_of_getElem? (i := 698) (by decide +kernel), List.mem_of_getElem? (i := 699) (by decide +kernel)⟩
theorem lw_p25 : lw_okq (⟨"ThingsThrownModel", "found", "(I)I"⟩, 17) := ⟨⟨by decide +kernel, by decide +kernel⟩, List.mem_of_getElem? (i := 720) (by decide +kernel), List.mem_of_getElem? (i := 789) (by decide +kernel), List.mem_of_getElem? (i := 790) (by decide +kernel)⟩
theorem lw_p26 : lw_okq (⟨"ThingsThrownModel", "wrongPlace", "(II)I"⟩, 17) := ⟨⟨by decide +kernel, by decide +kernel⟩, List.mem_of_getElem? (i := 720) (by decide +kernel), List.mem_of_getElem? (i := 797) (by decide +kernel), List.mem_of_getElem? (i := 798) (by decide +kernel)⟩
theorem lw_p27 : lw_okq (⟨"ThingsThrownModel", "tell", "(I)I"⟩, 17) := ⟨⟨by decide +kernel, by decide +kernel⟩, List.mem_of_getElem? (i := 720) (by decide +kernel), List.mem_of_getElem? (i := 801) (by decide +kernel), List.mem_of_getElem? (i := 802) (by decide +kernel)⟩
theorem lw_p28 : lw_okq (⟨"ThingsThrownModel", "isPart", "(III)Z"⟩, 17) := ⟨⟨by decide +kernel, by decide +kernel⟩, List.mem_of_getElem? (i := 720) (by decide +kernel), List.mem_of_getElem? (i := 817) (by decide +kernel), List.mem_of_getElem? (i := 818) (by decide +kernel)⟩
theorem lw_p29 : lw_okq (⟨"ThingsThrownModel", "readText", "(I)I"⟩, 17) := ⟨⟨by decide +kernel, by decide +kernel⟩, List.mem_of_getElem? (i := 720) (by decide +kernel), List.mem_of_getElem? (i := 840) (by decide +kernel), List.mem_of_getElem? (i := 841) (by decide +kernel)⟩
theorem lw_p30 : lw_okq (⟨"ThingsThrownModel", "byteAt", "(II)I"⟩, 17) := ⟨⟨by decide +kernel, by decide +kernel⟩, List.mem_of_getElem? (i := 720) (by decide +kernel), List.mem_of_getElem? (i := 844) (by decide +kernel), List.mem_of_getElem? (i := 845) (by decide +kernel)⟩
theorem lw_p31 : lw_okq (⟨"ThingsThrownModel", "isDueRead", "(I)Z"⟩, 17) := ⟨⟨by decide +kernel, by decide +kernel⟩, List.mem_of_getElem? (i := 720) (by decide +kernel), List.mem_of_getElem? (i := 851) (by decide +kernel), List.mem_of_getElem? (i := 852) (by decide +kernel)⟩
def lw_privs_2 : List (MethodName × Nat) := [(⟨"ThingsThrown$Outlook", "waysTo", "(III)J"⟩, 4), (⟨"ThingsThrown", "tellRatio", "(JJ)I"⟩, 13), (⟨"ThingsThrown", "refusalOfPairs", "(II)I"⟩, 13), (⟨"ThingsThrown$Outlook", "bestFrom", "(II)I"⟩, 4), (⟨"ThingsThrown", "refusalOfChances", "(II)I"⟩, 13), (⟨"ThingsThrown$Chances", "weightFrom", "(ILThingsThrown$Sheet;IIZ)J"⟩, 1), (⟨"ThingsThrown", "enterByLot", "(I)V"⟩, 13), (⟨"ThingsThrown", "enterThrowFrom", "(I)V"⟩, 13), (⟨"ThingsThrown", "skiesKept", "()I"⟩, 13), (⟨"ThingsThrownModel", "found", "(I)I"⟩, 17), (⟨"ThingsThrownModel", "wrongPlace", "(II)I"⟩, 17), (⟨"ThingsThrownModel", "tell", "(I)I"⟩, 17), (⟨"ThingsThrownModel", "isPart", "(III)Z"⟩, 17), (⟨"ThingsThrownModel", "readText", "(I)I"⟩, 17), (⟨"ThingsThrownModel", "byteAt", "(II)I"⟩, 17), (⟨"ThingsThrownModel", "isDueRead", "(I)Z"⟩, 17)]
theorem lw_r2 : ∀ q ∈ lw_privs_2, lw_okq q := List.forall_mem_cons.mpr ⟨lw_p16, List.forall_mem_cons.mpr ⟨lw_p17, List.forall_mem_cons.mpr ⟨lw_p18, List.forall_mem_cons.mpr ⟨lw_p19, List.forall_mem_cons.mpr ⟨lw_p20, List.forall_mem_cons.mpr ⟨lw_p21, List.forall_mem_cons.mpr ⟨lw_p22, List.forall_mem_cons.mpr ⟨lw_p23, List.forall_mem_cons.mpr ⟨lw_p24, List.forall_mem_cons.mpr ⟨lw_p25, List.forall_mem_cons.mpr ⟨lw_p26, List.forall_mem_cons.mpr ⟨lw_p27, List.forall_mem_cons.mpr ⟨lw_p28, List.forall_mem_cons.mpr ⟨lw_p29, List.forall_mem_cons.mpr ⟨lw_p30, List.forall_mem_cons.mpr ⟨lw_p31, fun _ h => absurd h List.not_mem_nil⟩⟩⟩⟩⟩⟩⟩⟩⟩⟩⟩⟩⟩⟩⟩⟩
theorem lw_p32 : lw_okq (⟨"ThingsThrownModel", "isThing", "(I)Z"⟩, 17) := ⟨⟨by decide +kernel, by decide +kernel⟩, List.mem_of_getElem? (i := 720) (by decide +kernel), List.mem_of_getElem? (i := 863) (by decide +kernel), List.mem_of_getElem? (i := 864) (by decide +kernel)⟩
theorem lw_p33 : lw_okq (⟨"ThingsThrownModel", "torchesAhead", "(I)I"⟩, 17) := ⟨⟨by decide +kernel, by decide +kernel⟩, List.mem_of_getElem? (i := 720) (by decide +kernel), List.mem_of_getElem? (i := 880) (by decide +kernel), List.mem_of_getElem? (i := 881) (by decide +kernel)⟩
theorem lw_p34 : lw_okq (⟨"ThingsThrownModel", "thingsBehind", "(I)I"⟩, 17) := ⟨⟨by decide +kernel, by decide +kernel⟩, List.mem_of_getElem? (i := 720) (by decide +kernel), List.mem_of_getElem? (i := 884) (by decide +kernel), List.mem_of_getElem? (i := 885) (by decide +kernel)⟩
theorem lw_p35 : lw_okq (⟨"ThingsThrownModel", "mayAt", "(II)Z"⟩, 17) := ⟨⟨by decide +kernel, by decide +kernel⟩, List.mem_of_getElem? (i := 720) (by decide +kernel), List.mem_of_getElem? (i := 895) (by decide +kernel), List.mem_of_getElem? (i := 896) (by decide +kernel)⟩
theorem lw_p36 : lw_okq (⟨"ThingsThrownModel", "dueAt", "(I)I"⟩, 17) := ⟨⟨by decide +kernel, by decide +kernel⟩, List.mem_of_getElem? (i := 720) (by decide +kernel), List.mem_of_getElem? (i := 899) (by decide +kernel), List.mem_of_getElem? (i := 900) (by decide +kernel)⟩
theorem lw_p37 : lw_okq (⟨"ThingsThrownModel", "skyAt", "(I)I"⟩, 17) := ⟨⟨by decide +kernel, by decide +kernel⟩, List.mem_of_getElem? (i := 720) (by decide +kernel), List.mem_of_getElem? (i := 903) (by decide +kernel), List.mem_of_getElem? (i := 904) (by decide +kernel)⟩
theorem lw_p38 : lw_okq (⟨"ThingsThrownModel", "remember", "()V"⟩, 17) := ⟨⟨by decide +kernel, by decide +kernel⟩, List.mem_of_getElem? (i := 720) (by decide +kernel), List.mem_of_getElem? (i := 910) (by decide +kernel), List.mem_of_getElem? (i := 911) (by decide +kernel)⟩
theorem lw_p39 : lw_okq (⟨"ThingsThrownModel", "copyRow", "(III)V"⟩, 17) := ⟨⟨by decide +kernel, by decide +kernel⟩, List.mem_of_getElem? (i := 720) (by decide +kernel), List.mem_of_getElem? (i := 914) (by decide +kernel), List.mem_of_getElem? (i := 915) (by decide +kernel)⟩
theorem lw_p40 : lw_okq (⟨"ThingsThrownModel", "tossAt", "(II)V"⟩, 17) := ⟨⟨by decide +kernel, by decide +kernel⟩, List.mem_of_getElem? (i := 720) (by decide +kernel), List.mem_of_getElem? (i := 918) (by decide +kernel), List.mem_of_getElem? (i := 919) (by decide +kernel)⟩
theorem lw_p41 : lw_okq (⟨"ThingsThrownModel", "later", "(I)V"⟩, 17) := ⟨⟨by decide +kernel, by decide +kernel⟩, List.mem_of_getElem? (i := 720) (by decide +kernel), List.mem_of_getElem? (i := 922) (by decide +kernel), List.mem_of_getElem? (i := 923) (by decide +kernel)⟩
theorem lw_p42 : lw_okq (⟨"ThingsThrownModel", "swap", "(II)V"⟩, 17) := ⟨⟨by decide +kernel, by decide +kernel⟩, List.mem_of_getElem? (i := 720) (by decide +kernel), List.mem_of_getElem? (i := 934) (by decide +kernel), List.mem_of_getElem? (i := 935) (by decide +kernel)⟩
theorem lw_p43 : lw_okq (⟨"ThingsThrownModel", "heightsAt", "(I)I"⟩, 17) := ⟨⟨by decide +kernel, by decide +kernel⟩, List.mem_of_getElem? (i := 720) (by decide +kernel), List.mem_of_getElem? (i := 958) (by decide +kernel), List.mem_of_getElem? (i := 959) (by decide +kernel)⟩
theorem lw_p44 : lw_okq (⟨"ThingsThrownModel", "wrongHeights", "(III)I"⟩, 17) := ⟨⟨by decide +kernel, by decide +kernel⟩, List.mem_of_getElem? (i := 720) (by decide +kernel), List.mem_of_getElem? (i := 966) (by decide +kernel), List.mem_of_getElem? (i := 967) (by decide +kernel)⟩
theorem lw_p45 : lw_okq (⟨"ThingsThrownModel", "beginTry", "()V"⟩, 17) := ⟨⟨by decide +kernel, by decide +kernel⟩, List.mem_of_getElem? (i := 720) (by decide +kernel), List.mem_of_getElem? (i := 970) (by decide +kernel), List.mem_of_getElem? (i := 971) (by decide +kernel)⟩
theorem lw_p46 : lw_okq (⟨"ThingsThrownModel", "restsAt", "(I)V"⟩, 17) := ⟨⟨by decide +kernel, by decide +kernel⟩, List.mem_of_getElem? (i := 720) (by decide +kernel), List.mem_of_getElem? (i := 974) (by decide +kernel), List.mem_of_getElem? (i := 975) (by decide +kernel)⟩
theorem lw_p47 : lw_okq (⟨"ThingsThrownModel", "isAsNow", "()Z"⟩, 17) := ⟨⟨by decide +kernel, by decide +kernel⟩, List.mem_of_getElem? (i := 720) (by decide +kernel), List.mem_of_getElem? (i := 982) (by decide +kernel), List.mem_of_getElem? (i := 983) (by decide +kernel)⟩
def lw_privs_3 : List (MethodName × Nat) := [(⟨"ThingsThrownModel", "isThing", "(I)Z"⟩, 17), (⟨"ThingsThrownModel", "torchesAhead", "(I)I"⟩, 17), (⟨"ThingsThrownModel", "thingsBehind", "(I)I"⟩, 17), (⟨"ThingsThrownModel", "mayAt", "(II)Z"⟩, 17), (⟨"ThingsThrownModel", "dueAt", "(I)I"⟩, 17), (⟨"ThingsThrownModel", "skyAt", "(I)I"⟩, 17), (⟨"ThingsThrownModel", "remember", "()V"⟩, 17), (⟨"ThingsThrownModel", "copyRow", "(III)V"⟩, 17), (⟨"ThingsThrownModel", "tossAt", "(II)V"⟩, 17), (⟨"ThingsThrownModel", "later", "(I)V"⟩, 17), (⟨"ThingsThrownModel", "swap", "(II)V"⟩, 17), (⟨"ThingsThrownModel", "heightsAt", "(I)I"⟩, 17), (⟨"ThingsThrownModel", "wrongHeights", "(III)I"⟩, 17), (⟨"ThingsThrownModel", "beginTry", "()V"⟩, 17), (⟨"ThingsThrownModel", "restsAt", "(I)V"⟩, 17), (⟨"ThingsThrownModel", "isAsNow", "()Z"⟩, 17)]
theorem lw_r3 : ∀ q ∈ lw_privs_3, lw_okq q := List.forall_mem_cons.mpr ⟨lw_p32, List.forall_mem_cons.mpr ⟨lw_p33, List.forall_mem_cons.mpr ⟨lw_p34, List.forall_mem_cons.mpr ⟨lw_p35, List.forall_mem_cons.mpr ⟨lw_p36, List.forall_mem_cons.mpr ⟨lw_p37, List.forall_mem_cons.mpr ⟨lw_p38, List.forall_mem_cons.mpr ⟨lw_p39, List.forall_mem_cons.mpr ⟨lw_p40, List.forall_mem_cons.mpr ⟨lw_p41, List.forall_mem_cons.mpr ⟨lw_p42, List.forall_mem_cons.mpr ⟨lw_p43, List.forall_mem_cons.mpr ⟨lw_p44, List.forall_mem_cons.mpr ⟨lw_p45, List.forall_mem_cons.mpr ⟨lw_p46, List.forall_mem_cons.mpr ⟨lw_p47, fun _ h => absurd h List.not_mem_nil⟩⟩⟩⟩⟩⟩⟩⟩⟩⟩⟩⟩⟩⟩⟩⟩
theorem lw_p48 : lw_okq (⟨"ThingsThrownModel", "canThrow", "(II)Z"⟩, 17) := ⟨⟨by decide +kernel, by decide +kernel⟩, List.mem_of_getElem? (i := 720) (by decide +kernel), List.mem_of_getElem? (i := 997) (by decide +kernel), List.mem_of_getElem? (i := 998) (by decide +kernel)⟩
theorem lw_p49 : lw_okq (⟨"ThingsThrownModel", "comesTo", "(I)Z"⟩, 17) := ⟨⟨by decide +kernel, by decide +kernel⟩, List.mem_of_getElem? (i := 720) (by decide +kernel), List.mem_of_getElem? (i := 1004) (by decide +kernel), List.mem_of_getElem? (i := 1005) (by decide +kernel)⟩
theorem lw_p50 : lw_okq (⟨"ThingsThrownModel", "wrongPairs", "(II)I"⟩, 17) := ⟨⟨by decide +kernel, by decide +kernel⟩, List.mem_of_getElem? (i := 720) (by decide +kernel), List.mem_of_getElem? (i := 1020) (by decide +kernel), List.mem_of_getElem? (i := 1021) (by decide +kernel)⟩
theorem lw_p51 : lw_okq (⟨"ThingsThrownModel", "kindsBy", "(I)I"⟩, 17) := ⟨⟨by decide +kernel, by decide +kernel⟩, List.mem_of_getElem? (i := 720) (by decide +kernel), List.mem_of_getElem? (i := 1024) (by decide +kernel), List.mem_of_getElem? (i := 1025) (by decide +kernel)⟩
theorem lw_p52 : lw_okq (⟨"ThingsThrownModel", "worthOf", "(III)I"⟩, 17) := ⟨⟨by decide +kernel, by decide +kernel⟩, List.mem_of_getElem? (i := 720) (by decide +kernel), List.mem_of_getElem? (i := 1042) (by decide +kernel), List.mem_of_getElem? (i := 1043) (by decide +kernel)⟩
theorem lw_p53 : lw_okq (⟨"ThingsThrownModel", "sumAt", "(I)I"⟩, 17) := ⟨⟨by decide +kernel, by decide +kernel⟩, List.mem_of_getElem? (i := 720) (by decide +kernel), List.mem_of_getElem? (i := 1047) (by decide +kernel), List.mem_of_getElem? (i := 1048) (by decide +kernel)⟩
theorem lw_p54 : lw_okq (⟨"ThingsThrownModel", "bestOf", "(II)I"⟩, 17) := ⟨⟨by decide +kernel, by decide +kernel⟩, List.mem_of_getElem? (i := 720) (by decide +kernel), List.mem_of_getElem? (i := 1051) (by decide +kernel), List.mem_of_getElem? (i := 1052) (by decide +kernel)⟩
theorem lw_p55 : lw_okq (⟨"ThingsThrownModel", "chances", "(IIZ)I"⟩, 17) := ⟨⟨by decide +kernel, by decide +kernel⟩, List.mem_of_getElem? (i := 720) (by decide +kernel), List.mem_of_getElem? (i := 1059) (by decide +kernel), List.mem_of_getElem? (i := 1060) (by decide +kernel)⟩
theorem lw_p56 : lw_okq (⟨"ThingsThrownModel", "wrongChance", "(II)I"⟩, 17) := ⟨⟨by decide +kernel, by decide +kernel⟩, List.mem_of_getElem? (i := 720) (by decide +kernel), List.mem_of_getElem? (i := 1063) (by decide +kernel), List.mem_of_getElem? (i := 1064) (by decide +kernel)⟩
theorem lw_p57 : lw_okq (⟨"ThingsThrownModel", "madeWith", "(II)I"⟩, 17) := ⟨⟨by decide +kernel, by decide +kernel⟩, List.mem_of_getElem? (i := 720) (by decide +kernel), List.mem_of_getElem? (i := 1068) (by decide +kernel), List.mem_of_getElem? (i := 1069) (by decide +kernel)⟩
theorem lw_p58 : lw_okq (⟨"ThingsThrownModel", "chanceOf", "(III)J"⟩, 17) := ⟨⟨by decide +kernel, by decide +kernel⟩, List.mem_of_getElem? (i := 720) (by decide +kernel), List.mem_of_getElem? (i := 1072) (by decide +kernel), List.mem_of_getElem? (i := 1073) (by decide +kernel)⟩
theorem lw_p59 : lw_okq (⟨"ThingsThrownModel", "tellPart", "(JJ)V"⟩, 17) := ⟨⟨by decide +kernel, by decide +kernel⟩, List.mem_of_getElem? (i := 720) (by decide +kernel), List.mem_of_getElem? (i := 1076) (by decide +kernel), List.mem_of_getElem? (i := 1077) (by decide +kernel)⟩
theorem lw_p60 : lw_okq (⟨"ThingsThrownModel", "doByLot", "(I)V"⟩, 17) := ⟨⟨by decide +kernel, by decide +kernel⟩, List.mem_of_getElem? (i := 720) (by decide +kernel), List.mem_of_getElem? (i := 1091) (by decide +kernel), List.mem_of_getElem? (i := 1092) (by decide +kernel)⟩
theorem lw_p61 : lw_okq (⟨"ThingsThrownModel", "throwsMade", "()I"⟩, 17) := ⟨⟨by decide +kernel, by decide +kernel⟩, List.mem_of_getElem? (i := 720) (by decide +kernel), List.mem_of_getElem? (i := 1111) (by decide +kernel), List.mem_of_getElem? (i := 1112) (by decide +kernel)⟩
theorem lw_p62 : lw_okq (⟨"ThingsThrownModel", "ofKinds", "(II)I"⟩, 17) := ⟨⟨by decide +kernel, by decide +kernel⟩, List.mem_of_getElem? (i := 720) (by decide +kernel), List.mem_of_getElem? (i := 1115) (by decide +kernel), List.mem_of_getElem? (i := 1116) (by decide +kernel)⟩
def lw_privs_4 : List (MethodName × Nat) := [(⟨"ThingsThrownModel", "canThrow", "(II)Z"⟩, 17), (⟨"ThingsThrownModel", "comesTo", "(I)Z"⟩, 17), (⟨"ThingsThrownModel", "wrongPairs", "(II)I"⟩, 17), (⟨"ThingsThrownModel", "kindsBy", "(I)I"⟩, 17), (⟨"ThingsThrownModel", "worthOf", "(III)I"⟩, 17), (⟨"ThingsThrownModel", "sumAt", "(I)I"⟩, 17), (⟨"ThingsThrownModel", "bestOf", "(II)I"⟩, 17), (⟨"ThingsThrownModel", "chances", "(IIZ)I"⟩, 17), (⟨"ThingsThrownModel", "wrongChance", "(II)I"⟩, 17), (⟨"ThingsThrownModel", "madeWith", "(II)I"⟩, 17), (⟨"ThingsThrownModel", "chanceOf", "(III)J"⟩, 17), (⟨"ThingsThrownModel", "tellPart", "(JJ)V"⟩, 17), (⟨"ThingsThrownModel", "doByLot", "(I)V"⟩, 17), (⟨"ThingsThrownModel", "throwsMade", "()I"⟩, 17), (⟨"ThingsThrownModel", "ofKinds", "(II)I"⟩, 17)]
theorem lw_r4 : ∀ q ∈ lw_privs_4, lw_okq q := List.forall_mem_cons.mpr ⟨lw_p48, List.forall_mem_cons.mpr ⟨lw_p49, List.forall_mem_cons.mpr ⟨lw_p50, List.forall_mem_cons.mpr ⟨lw_p51, List.forall_mem_cons.mpr ⟨lw_p52, List.forall_mem_cons.mpr ⟨lw_p53, List.forall_mem_cons.mpr ⟨lw_p54, List.forall_mem_cons.mpr ⟨lw_p55, List.forall_mem_cons.mpr ⟨lw_p56, List.forall_mem_cons.mpr ⟨lw_p57, List.forall_mem_cons.mpr ⟨lw_p58, List.forall_mem_cons.mpr ⟨lw_p59, List.forall_mem_cons.mpr ⟨lw_p60, List.forall_mem_cons.mpr ⟨lw_p61, List.forall_mem_cons.mpr ⟨lw_p62, fun _ h => absurd h List.not_mem_nil⟩⟩⟩⟩⟩⟩⟩⟩⟩⟩⟩⟩⟩⟩⟩
def lw_privs : List (MethodName × Nat) := lw_privs_1 ++ (lw_privs_2 ++ (lw_privs_3 ++ (lw_privs_4)))
def lw_tbl : List Cond := k2_sels lw_privs ++ tables_1
theorem lw_privs_ok : ∀ q ∈ lw_privs, lw_okq q := by
  show ∀ q ∈ lw_privs_1 ++ (lw_privs_2 ++ (lw_privs_3 ++ (lw_privs_4))), lw_okq q
  exact List.forall_mem_append.mpr ⟨lw_r1, List.forall_mem_append.mpr ⟨lw_r2, List.forall_mem_append.mpr ⟨lw_r3, lw_r4⟩⟩⟩
-- ===== end of PART A; then your names; then what follows =====
/-! THE CLAIM OUT OF ONE WALK OF THE LAW'S BODY. Your part is whole_start (and what it stands on); all else here is the same for every law, but numbers. -/
def R_law : String := "ThingsThrownLaw"
def lw_P (b : Addr) (xs : List Int32) (args : Array Value) (s : State) : Prop := args = #[.ref b] ∧ s.IntsAt b xs ∧ xs.length ≤ 3072 ∧ (Jvm.Cond.and given_1 narrow_1).before args s = true
def lw_Q (_ : Array Value) (s : State) (o : Outcome) (t : State) : Prop := o = .returned (some (.int 1)) ∧ Framed s o t [] 600000 7302250
def lw_Z (below : List Frame) (a : Array Value) (s : State) : State → Prop := fun t => ∃ o, t.status = .running ∧ Ended t below o ∧ lw_Q a s o t
/-- the law's own end, with 1 on the stack, nothing written that was there before, its room as the claim has it -/
theorem lw_ret {p : Program} {l : Launch} {e : Env} {s : State} {m : MethodId} {below : List Frame} {meth : Method} {c : Code} {b : Nat} (hx : p.tables.exec = Jvm.exec) (hb : c.code = code) (hr : meth.sig.returnType = ret) (hlocks : meth.locks = false) {pc : Nat} {H : Heap} {ls : Array Slot} (hdg : decode code pc = .ok (.ireturn, 1)) : W p l e room_1 s m #[Value.ref b] below meth c H [] 600000 7302250 (lw_Z below #[Value.ref b] s) (F0 m pc ls [.int 1]) := by
  intro T hT X
  obtain ⟨fs, hret, hrun, hended, hW, hframe⟩ := X.leave (v := some (.int 1)) (hlocks := hlocks) (fun h => by rw [hr] at h; cases h)
  have hmeth' : T.vm.method? m = some meth := X.method'
  refine ⟨T.setFrames fs, ?_, .returned (some (.int 1)), hrun, hended, rfl, ⟨_, rfl⟩, hW, hframe⟩
  jvm_step X.here [X.here.top, hx, hb, hdg, hmeth', hr, ret, narrow_b1]
  (try refine ⟨rfl, ?_⟩); (try refine ⟨rfl, ?_⟩)
  first | (intro acts; rw [hret _ acts rfl rfl rfl]) | rw [hret _ _ rfl rfl rfl]
  exact Steps.refl _
/-- what holds at the law's entry: the machine, the code, the tables' words (any of lw_tbl by 'hts w (by decide +kernel)'), the script of L ints xs at the cell b, what the Statement gives of the start (any of its parts by flat_of_before) -/
def lw_At (p : Program) (s : State) (m : MethodId) (meth : Method) (c : Code) (b L : Nat) (xs : Nat → Int32) : Prop :=
  p.tables.exec = Jvm.exec ∧ c.code = code ∧ meth.sig.returnType = ret ∧ c.maxLocals = 4 ∧ s.vm.findClass R_law = some m.cls ∧ (∀ w ∈ lw_tbl, w.before #[Value.ref b] s = true) ∧ va_X b L xs s s.heap ∧ b < s.heap.size ∧ meth.locks = false ∧ (Jvm.Cond.and given_1 narrow_1).before #[Value.ref b] s = true
end
section
/-! ===== names, by program (wip/whole/gen.py) out of the Statement ===== -/
def am_T0 : u_T := fun k => match k with
  | 0 => ("ThingsThrown", "rows", "[LThingsThrown$Sheet;", true)
  | 1 => ("ThingsThrown", "texts", "[LThingsThrown$Sheet;", true)
  | 2 => ("ThingsThrown", "telling", "LThingsThrown$Telling;", true)
  | 3 => ("ThingsThrown", "troupe", "LThingsThrown$Troupe;", true)
  | 4 => ("ThingsThrown", "evening", "LThingsThrown$Evening;", true)
  | 5 => ("ThingsThrown", "kept", "[LThingsThrown$Evening;", true)
  | 6 => ("ThingsThrown", "outlook", "LThingsThrown$Outlook;", true)
  | 7 => ("ThingsThrown", "chances", "LThingsThrown$Chances;", true)
  | 8 => ("ThingsThrown", "findingsMade", "[I", true)
  | 9 => ("ThingsThrown", "latestFinding", "I", false)
  | 10 => ("ThingsThrown", "askedLast", "I", false)
  | 11 => ("ThingsThrown", "upperLast", "J", false)
  | _ => ("ThingsThrown", "lowerLast", "J", false)
def am_Y0 : Nat → FieldType := fun k => match k with
  | 0 => .array (.object "ThingsThrown$Sheet")
  | 1 => .array (.object "ThingsThrown$Sheet")
  | 2 => .object "ThingsThrown$Telling"
  | 3 => .object "ThingsThrown$Troupe"
  | 4 => .object "ThingsThrown$Evening"
  | 5 => .array (.object "ThingsThrown$Evening")
  | 6 => .object "ThingsThrown$Outlook"
  | 7 => .object "ThingsThrown$Chances"
  | 8 => .array .int
  | 9 => .int
  | 10 => .int
  | 11 => .long
  | _ => .long
def am_T1 : u_T := fun k => match k with
  | _ => ("ThingsThrown$Chances", "troupe", "LThingsThrown$Troupe;", true)
def am_Y1 : Nat → FieldType := fun k => match k with
  | _ => .object "ThingsThrown$Troupe"
def am_T2 : u_T := fun k => match k with
  | 0 => ("ThingsThrown$Evening", "dues", "I", false)
  | 1 => ("ThingsThrown$Evening", "beat", "I", false)
  | 2 => ("ThingsThrown$Evening", "deeds", "I", false)
  | 3 => ("ThingsThrown$Evening", "timesThrown", "[I", true)
  | 4 => ("ThingsThrown$Evening", "duesAhead", "[I", true)
  | 5 => ("ThingsThrown$Evening", "thingThrown", "[I", true)
  | _ => ("ThingsThrown$Evening", "beatsTaken", "[I", true)
def am_Y2 : Nat → FieldType := fun k => match k with
  | 0 => .int
  | 1 => .int
  | 2 => .int
  | 3 => .array .int
  | 4 => .array .int
  | 5 => .array .int
  | _ => .array .int
def am_T3 : u_T := fun k => match k with
  | 0 => ("ThingsThrown$Outlook", "troupe", "LThingsThrown$Troupe;", true)
  | 1 => ("ThingsThrown$Outlook", "duesThen", "I", false)
  | 2 => ("ThingsThrown$Outlook", "path", "[I", true)
  | _ => ("ThingsThrown$Outlook", "firstHeights", "I", false)
def am_Y3 : Nat → FieldType := fun k => match k with
  | 0 => .object "ThingsThrown$Troupe"
  | 1 => .int
  | 2 => .array .int
  | _ => .int
def am_T4 : u_T := fun k => match k with
  | 0 => ("ThingsThrown$Sheet", "cells", "[I", true)
  | _ => ("ThingsThrown$Sheet", "size", "I", false)
def am_Y4 : Nat → FieldType := fun k => match k with
  | 0 => .array .int
  | _ => .int
def am_T5 : u_T := fun k => match k with
  | 0 => ("ThingsThrown$Telling", "troupe", "LThingsThrown$Troupe;", true)
  | _ => ("ThingsThrown$Telling", "dues", "I", false)
def am_Y5 : Nat → FieldType := fun k => match k with
  | 0 => .object "ThingsThrown$Troupe"
  | _ => .int
def am_T6 : u_T := fun k => match k with
  | 0 => ("ThingsThrown$Troupe", "size", "I", false)
  | _ => ("ThingsThrown$Troupe", "kind", "[I", true)
def am_Y6 : Nat → FieldType := fun k => match k with
  | 0 => .int
  | _ => .array .int
def am_T7 : u_T := fun k => match k with
  | 0 => ("ThingsThrownModel", "w", "[I", true)
  | 1 => ("ThingsThrownModel", "kind", "[I", true)
  | 2 => ("ThingsThrownModel", "things", "I", false)
  | 3 => ("ThingsThrownModel", "keptDeeds", "[I", true)
  | 4 => ("ThingsThrownModel", "rows", "[I", true)
  | 5 => ("ThingsThrownModel", "sizes", "[I", true)
  | 6 => ("ThingsThrownModel", "texts", "[B", true)
  | 7 => ("ThingsThrownModel", "lengths", "[I", true)
  | 8 => ("ThingsThrownModel", "asked", "I", false)
  | 9 => ("ThingsThrownModel", "upper", "J", false)
  | 10 => ("ThingsThrownModel", "lower", "J", false)
  | 11 => ("ThingsThrownModel", "finding", "I", false)
  | 12 => ("ThingsThrownModel", "findings", "[I", true)
  | 13 => ("ThingsThrownModel", "readKind", "[I", true)
  | 14 => ("ThingsThrownModel", "readDue", "[I", true)
  | 15 => ("ThingsThrownModel", "readMany", "I", false)
  | _ => ("ThingsThrownModel", "worth", "[I", true)
def am_Y7 : Nat → FieldType := fun k => match k with
  | 0 => .array .int
  | 1 => .array .int
  | 2 => .int
  | 3 => .array .int
  | 4 => .array .int
  | 5 => .array .int
  | 6 => .array .byte
  | 7 => .array .int
  | 8 => .int
  | 9 => .long
  | 10 => .long
  | 11 => .int
  | 12 => .array .int
  | 13 => .array .int
  | 14 => .array .int
  | 15 => .int
  | _ => .array .int
abbrev am_cl : List vw_C := [("ThingsThrown", am_T0, 13), ("ThingsThrown$Chances", am_T1, 1), ("ThingsThrown$Evening", am_T2, 7), ("ThingsThrown$Outlook", am_T3, 4), ("ThingsThrown$Sheet", am_T4, 2), ("ThingsThrown$Telling", am_T5, 2), ("ThingsThrown$Troupe", am_T6, 2), ("ThingsThrownModel", am_T7, 17)]
def am_Y : Nat → Nat → FieldType := fun c => match c with
  | 0 => am_Y0
  | 1 => am_Y1
  | 2 => am_Y2
  | 3 => am_Y3
  | 4 => am_Y4
  | 5 => am_Y5
  | 6 => am_Y6
  | _ => am_Y7
def am_F : Nat → Nat → Bool := fun c k => match c with
  | 0 => (am_T0 k).2.2.2
  | 1 => (am_T1 k).2.2.2
  | 2 => (am_T2 k).2.2.2
  | 3 => (am_T3 k).2.2.2
  | 4 => (am_T4 k).2.2.2
  | 5 => (am_T5 k).2.2.2
  | 6 => (am_T6 k).2.2.2
  | _ => (am_T7 k).2.2.2
def am_dv : Nat → List Value := fun c => match c with
  | 0 => [.null, .null, .null, .null, .null, .null, .null, .null, .null, .int 0, .int 0, .long 0, .long 0]
  | 1 => [.null]
  | 2 => [.int 0, .int 0, .int 0, .null, .null, .null, .null]
  | 3 => [.null, .int 0, .null, .int 0]
  | 4 => [.null, .int 0]
  | 5 => [.null, .int 0]
  | 6 => [.int 0, .null]
  | _ => [.null, .null, .int 0, .null, .null, .null, .null, .null, .int 0, .long 0, .long 0, .int 0, .null, .null, .null, .int 0, .null]
def am_own : Nat → String := fun c => match c with
  | 0 => "ThingsThrown"
  | 1 => "ThingsThrown$Chances"
  | 2 => "ThingsThrown$Evening"
  | 3 => "ThingsThrown$Outlook"
  | 4 => "ThingsThrown$Sheet"
  | 5 => "ThingsThrown$Telling"
  | 6 => "ThingsThrown$Troupe"
  | 7 => "ThingsThrownModel"
  | 8 => "ThingsThrown$Kinds"
  | 9 => "java/lang/Integer"
  | _ => "ThingsThrownLaw"
abbrev Am_M : Type := MethodName × ByteArray × Nat × Option FieldType × Nat
/-- the methods: name, bytes, locals, answer, the number of their class -/
def am_ml0 : List Am_M := [(⟨"ThingsThrown", "<init>", "()V"⟩, prog_1_method_1_code, 2, none, 0),
  (⟨"ThingsThrown$Telling", "<init>", "()V"⟩, prog_7_method_1_code, 1, none, 5),
  (⟨"ThingsThrown$Troupe", "<init>", "()V"⟩, prog_8_method_1_code, 1, none, 6),
  (⟨"ThingsThrown$Evening", "<init>", "()V"⟩, prog_3_method_1_code, 1, none, 2),
  (⟨"ThingsThrown$Outlook", "<init>", "(LThingsThrown$Troupe;)V"⟩, prog_5_method_1_code, 2, none, 3),
  (⟨"ThingsThrown$Chances", "<init>", "(LThingsThrown$Troupe;)V"⟩, prog_2_method_1_code, 2, none, 1),
  (⟨"ThingsThrown$Sheet", "<init>", "([I)V"⟩, prog_6_method_1_code, 2, none, 4),
  (⟨"ThingsThrown$Evening", "forget", "()V"⟩, prog_3_method_3_code, 1, none, 2),
  (⟨"ThingsThrown", "row", "(II)I"⟩, prog_1_method_2_code, 3, some .int, 0),
  (⟨"ThingsThrown", "isRow", "(I)Z"⟩, prog_1_method_41_code, 1, some .boolean, 0),
  (⟨"ThingsThrown", "found", "(I)I"⟩, prog_1_method_47_code, 2, some .int, 0),
  (⟨"ThingsThrown$Sheet", "begin", "(II)V"⟩, prog_6_method_2_code, 4, none, 4),
  (⟨"ThingsThrown", "lay", "(III)I"⟩, prog_1_method_3_code, 6, some .int, 0),
  (⟨"ThingsThrown", "refusalOfPlace", "(II)I"⟩, prog_1_method_49_code, 4, some .int, 0),
  (⟨"ThingsThrown", "refusalOfRow", "(I)I"⟩, prog_1_method_48_code, 2, some .int, 0),
  (⟨"ThingsThrown$Sheet", "isMissing", "()Z"⟩, prog_6_method_3_code, 1, some .boolean, 4),
  (⟨"ThingsThrown$Sheet", "has", "(I)Z"⟩, prog_6_method_4_code, 2, some .boolean, 4),
  (⟨"ThingsThrown", "tell", "(I)I"⟩, prog_1_method_54_code, 2, some .int, 0),
  (⟨"ThingsThrown", "at", "(II)I"⟩, prog_1_method_4_code, 4, some .int, 0),
  (⟨"ThingsThrown", "tear", "(I)I"⟩, prog_1_method_5_code, 3, some .int, 0),
  (⟨"ThingsThrown", "copy", "(IIIII)I"⟩, prog_1_method_6_code, 6, some .int, 0),
  (⟨"ThingsThrown$Sheet", "hasPart", "(II)Z"⟩, prog_6_method_5_code, 3, some .boolean, 4),
  (⟨"ThingsThrown", "mean", "(I)I"⟩, prog_1_method_7_code, 7, some .int, 0),
  (⟨"ThingsThrown", "text", "(II)I"⟩, prog_1_method_8_code, 3, some .int, 0),
  (⟨"ThingsThrown", "isText", "(I)Z"⟩, prog_1_method_42_code, 1, some .boolean, 0),
  (⟨"ThingsThrown", "put", "(III)I"⟩, prog_1_method_9_code, 6, some .int, 0),
  (⟨"ThingsThrown", "refusalOfText", "(I)I"⟩, prog_1_method_50_code, 2, some .int, 0),
  (⟨"ThingsThrown", "fault", "(I)I"⟩, prog_1_method_10_code, 3, some .int, 0),
  (⟨"ThingsThrown$Telling", "read", "(LThingsThrown$Sheet;)I"⟩, prog_7_method_2_code, 4, some .int, 5),
  (⟨"ThingsThrown$Troupe", "begin", "()V"⟩, prog_8_method_5_code, 1, none, 6)]
def am_ml1 : List Am_M := [(⟨"ThingsThrown$Kinds", "byLetter", "(I)I"⟩, prog_4_method_2_code, 2, some .int, 8),
  (⟨"ThingsThrown$Telling", "isFreeFigure", "(I)Z"⟩, prog_7_method_3_code, 3, some .boolean, 5),
  (⟨"ThingsThrown$Troupe", "sky", "(I)I"⟩, prog_8_method_8_code, 4, some .int, 6),
  (⟨"ThingsThrown$Troupe", "due", "(II)I"⟩, prog_8_method_2_code, 2, some .int, 6),
  (⟨"ThingsThrown$Troupe", "with", "(III)I"⟩, prog_8_method_3_code, 3, some .int, 6),
  (⟨"ThingsThrown$Troupe", "add", "(I)V"⟩, prog_8_method_6_code, 2, none, 6),
  (⟨"ThingsThrown", "things", "(I)I"⟩, prog_1_method_11_code, 4, some .int, 0),
  (⟨"ThingsThrown$Troupe", "takeFrom", "(LThingsThrown$Troupe;)V"⟩, prog_8_method_7_code, 2, none, 6),
  (⟨"ThingsThrown$Evening", "begin", "(I)V"⟩, prog_3_method_2_code, 3, none, 2),
  (⟨"ThingsThrown", "thing", "(II)I"⟩, prog_1_method_12_code, 3, some .int, 0),
  (⟨"ThingsThrown", "isThing", "(I)Z"⟩, prog_1_method_46_code, 2, some .boolean, 0),
  (⟨"ThingsThrown", "ofThing", "(II)I"⟩, prog_1_method_57_code, 3, some .int, 0),
  (⟨"ThingsThrown$Kinds", "heightsOf", "(I)I"⟩, prog_4_method_5_code, 1, some .int, 8),
  (⟨"ThingsThrown", "mark", "(II)I"⟩, prog_1_method_13_code, 4, some .int, 0),
  (⟨"ThingsThrown$Kinds", "isOf", "(II)Z"⟩, prog_4_method_3_code, 2, some .boolean, 8),
  (⟨"ThingsThrown$Kinds", "heightsLater", "(I)I"⟩, prog_4_method_6_code, 3, some .int, 8),
  (⟨"ThingsThrown$Kinds", "flight", "(II)I"⟩, prog_4_method_4_code, 2, some .int, 8),
  (⟨"ThingsThrown$Kinds", "heightsSooner", "(I)I"⟩, prog_4_method_7_code, 3, some .int, 8),
  (⟨"ThingsThrown$Troupe", "torchesAhead", "(II)I"⟩, prog_8_method_12_code, 5, some .int, 6),
  (⟨"ThingsThrown$Troupe", "thingsBehind", "(II)I"⟩, prog_8_method_13_code, 5, some .int, 6),
  (⟨"ThingsThrown", "toss", "(I)I"⟩, prog_1_method_14_code, 2, some .int, 0),
  (⟨"ThingsThrown", "isHeight", "(I)Z"⟩, prog_1_method_43_code, 1, some .boolean, 0),
  (⟨"ThingsThrown$Troupe", "mayGo", "(II)Z"⟩, prog_8_method_17_code, 4, some .boolean, 6),
  (⟨"ThingsThrown$Troupe", "dueNow", "(I)I"⟩, prog_8_method_9_code, 3, some .int, 6),
  (⟨"ThingsThrown$Troupe", "isFree", "(II)Z"⟩, prog_8_method_19_code, 2, some .boolean, 6),
  (⟨"ThingsThrown$Evening", "isFull", "()Z"⟩, prog_3_method_5_code, 1, some .boolean, 2),
  (⟨"ThingsThrown", "enterThrow", "(I)V"⟩, prog_1_method_61_code, 3, none, 0),
  (⟨"ThingsThrown$Troupe", "thrown", "(II)I"⟩, prog_8_method_20_code, 4, some .int, 6),
  (⟨"ThingsThrown$Troupe", "later", "(II)I"⟩, prog_8_method_15_code, 3, some .int, 6),
  (⟨"ThingsThrown$Evening", "enter", "(III)V"⟩, prog_3_method_6_code, 4, none, 2)]
def am_ml2 : List Am_M := [(⟨"ThingsThrown$Evening", "isForgotten", "()Z"⟩, prog_3_method_4_code, 1, some .boolean, 2),
  (⟨"ThingsThrown", "skyNow", "()I"⟩, prog_1_method_58_code, 1, some .int, 0),
  (⟨"ThingsThrown", "rest", "()I"⟩, prog_1_method_15_code, 1, some .int, 0),
  (⟨"ThingsThrown", "enterRest", "()V"⟩, prog_1_method_62_code, 1, none, 0),
  (⟨"ThingsThrown", "exchange", "(II)I"⟩, prog_1_method_16_code, 3, some .int, 0),
  (⟨"ThingsThrown", "enterExchange", "(II)V"⟩, prog_1_method_63_code, 3, none, 0),
  (⟨"ThingsThrown$Troupe", "exchanged", "(III)I"⟩, prog_8_method_4_code, 3, some .int, 6),
  (⟨"ThingsThrown", "undo", "(I)I"⟩, prog_1_method_17_code, 3, some .int, 0),
  (⟨"ThingsThrown$Evening", "takeBack", "(I)V"⟩, prog_3_method_7_code, 3, none, 2),
  (⟨"ThingsThrown", "keep", "(I)I"⟩, prog_1_method_18_code, 2, some .int, 0),
  (⟨"ThingsThrown", "isPlaceKept", "(I)Z"⟩, prog_1_method_45_code, 1, some .boolean, 0),
  (⟨"ThingsThrown$Evening", "takeFrom", "(LThingsThrown$Evening;)V"⟩, prog_3_method_9_code, 2, none, 2),
  (⟨"ThingsThrown", "on", "(I)I"⟩, prog_1_method_19_code, 2, some .int, 0),
  (⟨"ThingsThrown", "lands", "(II)I"⟩, prog_1_method_20_code, 3, some .int, 0),
  (⟨"ThingsThrown", "may", "()I"⟩, prog_1_method_21_code, 2, some .int, 0),
  (⟨"ThingsThrown$Troupe", "heightsNow", "(I)I"⟩, prog_8_method_18_code, 6, some .int, 6),
  (⟨"ThingsThrown", "run", "(I)I"⟩, prog_1_method_22_code, 4, some .int, 0),
  (⟨"ThingsThrown", "refusalOfThrows", "(III)I"⟩, prog_1_method_51_code, 7, some .int, 0),
  (⟨"ThingsThrown$Outlook", "throwsMade", "(ILThingsThrown$Sheet;)I"⟩, prog_5_method_2_code, 4, some .int, 3),
  (⟨"ThingsThrown$Troupe", "rested", "(I)I"⟩, prog_8_method_16_code, 2, some .int, 6),
  (⟨"ThingsThrown$Troupe", "restsAhead", "(I)I"⟩, prog_8_method_14_code, 4, some .int, 6),
  (⟨"ThingsThrown", "rounds", "(I)I"⟩, prog_1_method_23_code, 3, some .int, 0),
  (⟨"ThingsThrown$Outlook", "roundsBack", "(ILThingsThrown$Sheet;)I"⟩, prog_5_method_3_code, 5, some .int, 3),
  (⟨"ThingsThrown$Outlook", "comesToDues", "(II)Z"⟩, prog_5_method_4_code, 5, some .boolean, 3),
  (⟨"ThingsThrown", "fewest", "(II)I"⟩, prog_1_method_24_code, 4, some .int, 0),
  (⟨"ThingsThrown", "isSky", "(I)Z"⟩, prog_1_method_44_code, 1, some .boolean, 0),
  (⟨"ThingsThrown$Outlook", "fewestTo", "(II)I"⟩, prog_5_method_6_code, 4, some .int, 3),
  (⟨"java/lang/Integer", "bitCount", "(I)I"⟩, prog_11_method_49_code, 1, some .int, 9),
  (⟨"ThingsThrown$Outlook", "leadsTo", "(IIII)Z"⟩, prog_5_method_7_code, 8, some .boolean, 3),
  (⟨"ThingsThrown$Outlook", "comesToSky", "(II)Z"⟩, prog_5_method_5_code, 6, some .boolean, 3)]
def am_ml3 : List Am_M := [(⟨"ThingsThrown", "ways", "(I)I"⟩, prog_1_method_25_code, 2, some .int, 0),
  (⟨"ThingsThrown$Outlook", "waysBack", "(II)J"⟩, prog_5_method_8_code, 11, some .long, 3),
  (⟨"ThingsThrown$Outlook", "waysTo", "(III)J"⟩, prog_5_method_9_code, 9, some .long, 3),
  (⟨"ThingsThrown", "tellRatio", "(JJ)I"⟩, prog_1_method_55_code, 7, some .int, 0),
  (⟨"ThingsThrown", "sharedDivisor", "(JJ)J"⟩, prog_1_method_56_code, 11, some .long, 0),
  (⟨"ThingsThrown", "height", "(I)I"⟩, prog_1_method_26_code, 2, some .int, 0),
  (⟨"ThingsThrown$Outlook", "heightsTo", "(II)I"⟩, prog_5_method_10_code, 6, some .int, 3),
  (⟨"ThingsThrown", "kinds", "(II)I"⟩, prog_1_method_27_code, 4, some .int, 0),
  (⟨"ThingsThrown", "refusalOfPairs", "(II)I"⟩, prog_1_method_53_code, 7, some .int, 0),
  (⟨"ThingsThrown$Kinds", "fitting", "(LThingsThrown$Sheet;)I"⟩, prog_4_method_8_code, 3, some .int, 8),
  (⟨"ThingsThrown$Kinds", "fits", "(ILThingsThrown$Sheet;)Z"⟩, prog_4_method_9_code, 3, some .boolean, 8),
  (⟨"ThingsThrown", "next", "(II)I"⟩, prog_1_method_28_code, 6, some .int, 0),
  (⟨"ThingsThrown$Kinds", "heightToTry", "(I)I"⟩, prog_4_method_10_code, 3, some .int, 8),
  (⟨"ThingsThrown$Kinds", "greatestPart", "(II)I"⟩, prog_4_method_11_code, 4, some .int, 8),
  (⟨"ThingsThrown$Kinds", "alike", "(III)I"⟩, prog_4_method_12_code, 5, some .int, 8),
  (⟨"ThingsThrown", "duel", "(I)I"⟩, prog_1_method_29_code, 2, some .int, 0),
  (⟨"ThingsThrown$Outlook", "bestByTurns", "(II)I"⟩, prog_5_method_11_code, 3, some .int, 3),
  (⟨"ThingsThrown$Outlook", "bestFrom", "(II)I"⟩, prog_5_method_12_code, 9, some .int, 3),
  (⟨"ThingsThrown$Troupe", "dueTogether", "(I)I"⟩, prog_8_method_10_code, 4, some .int, 6),
  (⟨"ThingsThrown", "odds", "(II)I"⟩, prog_1_method_30_code, 6, some .int, 0),
  (⟨"ThingsThrown", "refusalOfChances", "(II)I"⟩, prog_1_method_52_code, 3, some .int, 0),
  (⟨"ThingsThrown$Chances", "weightOfAll", "(ILThingsThrown$Sheet;I)J"⟩, prog_2_method_3_code, 4, some .long, 1),
  (⟨"ThingsThrown$Chances", "weightFrom", "(ILThingsThrown$Sheet;IIZ)J"⟩, prog_2_method_5_code, 13, some .long, 1),
  (⟨"ThingsThrown$Chances", "weight", "(I)J"⟩, prog_2_method_2_code, 4, some .long, 1),
  (⟨"ThingsThrown", "mid", "(II)I"⟩, prog_1_method_31_code, 6, some .int, 0),
  (⟨"ThingsThrown$Chances", "weightOfMade", "(ILThingsThrown$Sheet;I)J"⟩, prog_2_method_4_code, 4, some .long, 1),
  (⟨"ThingsThrown", "lots", "(II)I"⟩, prog_1_method_32_code, 6, some .int, 0),
  (⟨"ThingsThrown", "enterByLot", "(I)V"⟩, prog_1_method_64_code, 3, none, 0),
  (⟨"ThingsThrown", "enterThrowFrom", "(I)V"⟩, prog_1_method_65_code, 4, none, 0),
  (⟨"ThingsThrown", "asked", "()I"⟩, prog_1_method_33_code, 1, some .int, 0)]
def am_ml4 : List Am_M := [(⟨"ThingsThrown", "upper", "()J"⟩, prog_1_method_34_code, 1, some .long, 0),
  (⟨"ThingsThrown", "lower", "()J"⟩, prog_1_method_35_code, 1, some .long, 0),
  (⟨"ThingsThrown", "count", "(I)I"⟩, prog_1_method_36_code, 2, some .int, 0),
  (⟨"ThingsThrown$Evening", "throwsMade", "()I"⟩, prog_3_method_8_code, 3, some .int, 2),
  (⟨"ThingsThrown$Troupe", "howManyOf", "(I)I"⟩, prog_8_method_11_code, 4, some .int, 6),
  (⟨"ThingsThrown", "sheetsThere", "([LThingsThrown$Sheet;)I"⟩, prog_1_method_59_code, 3, some .int, 0),
  (⟨"ThingsThrown", "skiesKept", "()I"⟩, prog_1_method_60_code, 3, some .int, 0),
  (⟨"ThingsThrown", "finding", "()I"⟩, prog_1_method_37_code, 1, some .int, 0),
  (⟨"ThingsThrown", "findings", "(I)I"⟩, prog_1_method_38_code, 2, some .int, 0),
  (⟨"ThingsThrown", "digest", "()J"⟩, prog_1_method_39_code, 5, some .long, 0),
  (⟨"ThingsThrown", "digestOfSheets", "(J[LThingsThrown$Sheet;)J"⟩, prog_1_method_40_code, 7, some .long, 0),
  (⟨"ThingsThrownModel", "<init>", "()V"⟩, prog_10_method_1_code, 2, none, 7),
  (⟨"ThingsThrownModel", "row", "(II)I"⟩, prog_10_method_9_code, 4, some .int, 7),
  (⟨"ThingsThrownModel", "isRow", "(I)Z"⟩, prog_10_method_8_code, 1, some .boolean, 7),
  (⟨"ThingsThrownModel", "in", "(III)Z"⟩, prog_10_method_3_code, 3, some .boolean, 7),
  (⟨"ThingsThrownModel", "found", "(I)I"⟩, prog_10_method_5_code, 2, some .int, 7),
  (⟨"ThingsThrownModel", "lay", "(III)I"⟩, prog_10_method_11_code, 6, some .int, 7),
  (⟨"ThingsThrownModel", "wrongPlace", "(II)I"⟩, prog_10_method_10_code, 3, some .int, 7),
  (⟨"ThingsThrownModel", "tell", "(I)I"⟩, prog_10_method_6_code, 2, some .int, 7),
  (⟨"ThingsThrownModel", "at", "(II)I"⟩, prog_10_method_12_code, 4, some .int, 7),
  (⟨"ThingsThrownModel", "tear", "(I)I"⟩, prog_10_method_13_code, 2, some .int, 7),
  (⟨"ThingsThrownModel", "copy", "(IIIII)I"⟩, prog_10_method_15_code, 9, some .int, 7),
  (⟨"ThingsThrownModel", "isPart", "(III)Z"⟩, prog_10_method_14_code, 4, some .boolean, 7),
  (⟨"ThingsThrownModel", "mean", "(I)I"⟩, prog_10_method_16_code, 5, some .int, 7),
  (⟨"ThingsThrownModel", "text", "(II)I"⟩, prog_10_method_18_code, 4, some .int, 7),
  (⟨"ThingsThrownModel", "isText", "(I)Z"⟩, prog_10_method_17_code, 1, some .boolean, 7),
  (⟨"ThingsThrownModel", "put", "(III)I"⟩, prog_10_method_19_code, 5, some .int, 7),
  (⟨"ThingsThrownModel", "fault", "(I)I"⟩, prog_10_method_24_code, 2, some .int, 7),
  (⟨"ThingsThrownModel", "readText", "(I)I"⟩, prog_10_method_23_code, 5, some .int, 7),
  (⟨"ThingsThrownModel", "byteAt", "(II)I"⟩, prog_10_method_21_code, 3, some .int, 7)]
def am_ml5 : List Am_M := [(⟨"ThingsThrownModel", "kindOf", "(I)I"⟩, prog_10_method_20_code, 1, some .int, 7),
  (⟨"ThingsThrownModel", "isDueRead", "(I)Z"⟩, prog_10_method_22_code, 4, some .boolean, 7),
  (⟨"ThingsThrownModel", "things", "(I)I"⟩, prog_10_method_25_code, 3, some .int, 7),
  (⟨"ThingsThrownModel", "thing", "(II)I"⟩, prog_10_method_30_code, 3, some .int, 7),
  (⟨"ThingsThrownModel", "isThing", "(I)Z"⟩, prog_10_method_26_code, 2, some .boolean, 7),
  (⟨"ThingsThrownModel", "heightsOf", "(I)I"⟩, prog_10_method_29_code, 3, some .int, 7),
  (⟨"ThingsThrownModel", "landing", "(II)I"⟩, prog_10_method_28_code, 2, some .int, 7),
  (⟨"ThingsThrownModel", "mark", "(II)I"⟩, prog_10_method_34_code, 4, some .int, 7),
  (⟨"ThingsThrownModel", "unlikeBall", "(II)I"⟩, prog_10_method_31_code, 5, some .int, 7),
  (⟨"ThingsThrownModel", "torchesAhead", "(I)I"⟩, prog_10_method_32_code, 4, some .int, 7),
  (⟨"ThingsThrownModel", "thingsBehind", "(I)I"⟩, prog_10_method_33_code, 4, some .int, 7),
  (⟨"ThingsThrownModel", "toss", "(I)I"⟩, prog_10_method_45_code, 2, some .int, 7),
  (⟨"ThingsThrownModel", "isHeight", "(I)Z"⟩, prog_10_method_27_code, 1, some .boolean, 7),
  (⟨"ThingsThrownModel", "mayAt", "(II)Z"⟩, prog_10_method_37_code, 5, some .boolean, 7),
  (⟨"ThingsThrownModel", "dueAt", "(I)I"⟩, prog_10_method_36_code, 3, some .int, 7),
  (⟨"ThingsThrownModel", "skyAt", "(I)I"⟩, prog_10_method_35_code, 4, some .int, 7),
  (⟨"ThingsThrownModel", "has", "(II)Z"⟩, prog_10_method_4_code, 2, some .boolean, 7),
  (⟨"ThingsThrownModel", "remember", "()V"⟩, prog_10_method_44_code, 1, none, 7),
  (⟨"ThingsThrownModel", "copyRow", "(III)V"⟩, prog_10_method_7_code, 5, none, 7),
  (⟨"ThingsThrownModel", "tossAt", "(II)V"⟩, prog_10_method_40_code, 4, none, 7),
  (⟨"ThingsThrownModel", "later", "(I)V"⟩, prog_10_method_39_code, 3, none, 7),
  (⟨"ThingsThrownModel", "rest", "()I"⟩, prog_10_method_46_code, 1, some .int, 7),
  (⟨"ThingsThrownModel", "exchange", "(II)I"⟩, prog_10_method_48_code, 3, some .int, 7),
  (⟨"ThingsThrownModel", "swap", "(II)V"⟩, prog_10_method_47_code, 4, none, 7),
  (⟨"ThingsThrownModel", "undo", "(I)I"⟩, prog_10_method_49_code, 3, some .int, 7),
  (⟨"ThingsThrownModel", "keep", "(I)I"⟩, prog_10_method_50_code, 2, some .int, 7),
  (⟨"ThingsThrownModel", "on", "(I)I"⟩, prog_10_method_51_code, 2, some .int, 7),
  (⟨"ThingsThrownModel", "lands", "(II)I"⟩, prog_10_method_52_code, 3, some .int, 7),
  (⟨"ThingsThrownModel", "may", "()I"⟩, prog_10_method_53_code, 1, some .int, 7),
  (⟨"ThingsThrownModel", "heightsAt", "(I)I"⟩, prog_10_method_38_code, 4, some .int, 7)]
def am_ml6 : List Am_M := [(⟨"ThingsThrownModel", "run", "(I)I"⟩, prog_10_method_55_code, 6, some .int, 7),
  (⟨"ThingsThrownModel", "wrongHeights", "(III)I"⟩, prog_10_method_54_code, 5, some .int, 7),
  (⟨"ThingsThrownModel", "beginTry", "()V"⟩, prog_10_method_43_code, 1, none, 7),
  (⟨"ThingsThrownModel", "restsAt", "(I)V"⟩, prog_10_method_41_code, 2, none, 7),
  (⟨"ThingsThrownModel", "rounds", "(I)I"⟩, prog_10_method_57_code, 6, some .int, 7),
  (⟨"ThingsThrownModel", "isAsNow", "()Z"⟩, prog_10_method_56_code, 3, some .boolean, 7),
  (⟨"ThingsThrownModel", "fewest", "(II)I"⟩, prog_10_method_63_code, 6, some .int, 7),
  (⟨"ThingsThrownModel", "isSky", "(I)Z"⟩, prog_10_method_62_code, 1, some .boolean, 7),
  (⟨"ThingsThrownModel", "power", "(II)I"⟩, prog_10_method_58_code, 4, some .int, 7),
  (⟨"ThingsThrownModel", "canThrow", "(II)Z"⟩, prog_10_method_60_code, 5, some .boolean, 7),
  (⟨"ThingsThrownModel", "figure", "(III)I"⟩, prog_10_method_59_code, 3, some .int, 7),
  (⟨"ThingsThrownModel", "comesTo", "(I)Z"⟩, prog_10_method_61_code, 2, some .boolean, 7),
  (⟨"ThingsThrownModel", "ways", "(I)I"⟩, prog_10_method_64_code, 5, some .int, 7),
  (⟨"ThingsThrownModel", "height", "(I)I"⟩, prog_10_method_65_code, 4, some .int, 7),
  (⟨"ThingsThrownModel", "kinds", "(II)I"⟩, prog_10_method_68_code, 4, some .int, 7),
  (⟨"ThingsThrownModel", "wrongPairs", "(II)I"⟩, prog_10_method_66_code, 4, some .int, 7),
  (⟨"ThingsThrownModel", "kindsBy", "(I)I"⟩, prog_10_method_67_code, 6, some .int, 7),
  (⟨"ThingsThrownModel", "next", "(II)I"⟩, prog_10_method_70_code, 9, some .int, 7),
  (⟨"ThingsThrownModel", "greatestPart", "(II)I"⟩, prog_10_method_69_code, 6, some .int, 7),
  (⟨"ThingsThrownModel", "duel", "(I)I"⟩, prog_10_method_74_code, 4, some .int, 7),
  (⟨"ThingsThrownModel", "base", "(I)I"⟩, prog_10_method_71_code, 1, some .int, 7),
  (⟨"ThingsThrownModel", "worthOf", "(III)I"⟩, prog_10_method_73_code, 4, some .int, 7),
  (⟨"ThingsThrownModel", "sumAt", "(I)I"⟩, prog_10_method_42_code, 4, some .int, 7),
  (⟨"ThingsThrownModel", "bestOf", "(II)I"⟩, prog_10_method_72_code, 7, some .int, 7),
  (⟨"ThingsThrownModel", "odds", "(II)I"⟩, prog_10_method_80_code, 3, some .int, 7),
  (⟨"ThingsThrownModel", "chances", "(IIZ)I"⟩, prog_10_method_79_code, 11, some .int, 7),
  (⟨"ThingsThrownModel", "wrongChance", "(II)I"⟩, prog_10_method_75_code, 3, some .int, 7),
  (⟨"ThingsThrownModel", "madeWith", "(II)I"⟩, prog_10_method_76_code, 5, some .int, 7),
  (⟨"ThingsThrownModel", "chanceOf", "(III)J"⟩, prog_10_method_77_code, 7, some .long, 7),
  (⟨"ThingsThrownModel", "tellPart", "(JJ)V"⟩, prog_10_method_78_code, 11, none, 7)]
def am_ml7 : List Am_M := [(⟨"ThingsThrownModel", "mid", "(II)I"⟩, prog_10_method_81_code, 3, some .int, 7),
  (⟨"ThingsThrownModel", "lots", "(II)I"⟩, prog_10_method_83_code, 6, some .int, 7),
  (⟨"ThingsThrownModel", "doByLot", "(I)V"⟩, prog_10_method_82_code, 5, none, 7),
  (⟨"ThingsThrownModel", "asked", "()I"⟩, prog_10_method_84_code, 1, some .int, 7),
  (⟨"ThingsThrownModel", "upper", "()J"⟩, prog_10_method_85_code, 1, some .long, 7),
  (⟨"ThingsThrownModel", "lower", "()J"⟩, prog_10_method_86_code, 1, some .long, 7),
  (⟨"ThingsThrownModel", "count", "(I)I"⟩, prog_10_method_90_code, 2, some .int, 7),
  (⟨"ThingsThrownModel", "throwsMade", "()I"⟩, prog_10_method_87_code, 3, some .int, 7),
  (⟨"ThingsThrownModel", "ofKinds", "(II)I"⟩, prog_10_method_88_code, 5, some .int, 7),
  (⟨"ThingsThrownModel", "thereAre", "([II)I"⟩, prog_10_method_89_code, 4, some .int, 7),
  (⟨"ThingsThrownModel", "finding", "()I"⟩, prog_10_method_91_code, 1, some .int, 7),
  (⟨"ThingsThrownModel", "findings", "(I)I"⟩, prog_10_method_92_code, 2, some .int, 7),
  (⟨"ThingsThrownModel", "digest", "()J"⟩, prog_10_method_93_code, 5, some .long, 7)]
def am_ml : List Am_M := am_ml0 ++ (am_ml1 ++ (am_ml2 ++ (am_ml3 ++ (am_ml4 ++ (am_ml5 ++ (am_ml6 ++ (am_ml7)))))))
def am_m (i : Nat) : Am_M := (am_ml[i]?).getD (⟨"", "", ""⟩, .mk #[], 0, none, 0)
abbrev am_TB : List Cond := lw_tbl.filter goodWord
def am_nest : List Cond := [.methodLinkNest "ThingsThrown" 20 ⟨"ThingsThrown$Telling", "<init>", "()V"⟩ "ThingsThrown", .methodLinkNest "ThingsThrown$Telling" 11 ⟨"ThingsThrown$Troupe", "<init>", "()V"⟩ "ThingsThrown", .methodLinkNest "ThingsThrown" 27 ⟨"ThingsThrown$Troupe", "<init>", "()V"⟩ "ThingsThrown", .methodLinkNest "ThingsThrown" 34 ⟨"ThingsThrown$Evening", "<init>", "()V"⟩ "ThingsThrown"]
end
section
/-! ===== the words that the machine needs, row by row, by program ===== -/
theorem am_in {w : Cond} (h : w ∈ tables_1) (g : goodWord w = true) : w ∈ am_TB := List.mem_filter.mpr ⟨List.mem_append_right _ h, g⟩
theorem am_in1 {w : Cond} {i : Nat} (h : tables_1_1[i]? = some w) (g : goodWord w = true) : w ∈ am_TB := am_in (by unfold tables_1; exact List.mem_append_left _ (List.mem_of_getElem? h)) g
theorem am_in2 {w : Cond} {i : Nat} (h : tables_1_2[i]? = some w) (g : goodWord w = true) : w ∈ am_TB := am_in (by unfold tables_1; exact List.mem_append_right _ (List.mem_append_left _ (List.mem_of_getElem? h))) g
theorem am_in3 {w : Cond} {i : Nat} (h : tables_1_3[i]? = some w) (g : goodWord w = true) : w ∈ am_TB := am_in (by unfold tables_1; exact List.mem_append_right _ (List.mem_append_right _ (List.mem_append_left _ (List.mem_of_getElem? h)))) g
theorem am_in4 {w : Cond} {i : Nat} (h : tables_1_4[i]? = some w) (g : goodWord w = true) : w ∈ am_TB := am_in (by unfold tables_1; exact List.mem_append_right _ (List.mem_append_right _ (List.mem_append_right _ (List.mem_append_left _ (List.mem_of_getElem? h))))) g
theorem am_in5 {w : Cond} {i : Nat} (h : tables_1_5[i]? = some w) (g : goodWord w = true) : w ∈ am_TB := am_in (by unfold tables_1; exact List.mem_append_right _ (List.mem_append_right _ (List.mem_append_right _ (List.mem_append_right _ (List.mem_of_getElem? h))))) g
theorem am_inP1 {q : MethodName × Nat} {i : Nat} (h : lw_privs_1[i]? = some q) : q ∈ lw_privs := by unfold lw_privs; exact List.mem_append_left _ (List.mem_of_getElem? h)
theorem am_inP2 {q : MethodName × Nat} {i : Nat} (h : lw_privs_2[i]? = some q) : q ∈ lw_privs := by unfold lw_privs; exact List.mem_append_right _ (List.mem_append_left _ (List.mem_of_getElem? h))
theorem am_inP3 {q : MethodName × Nat} {i : Nat} (h : lw_privs_3[i]? = some q) : q ∈ lw_privs := by unfold lw_privs; exact List.mem_append_right _ (List.mem_append_right _ (List.mem_append_left _ (List.mem_of_getElem? h)))
theorem am_inP4 {q : MethodName × Nat} {i : Nat} (h : lw_privs_4[i]? = some q) : q ∈ lw_privs := by unfold lw_privs; exact List.mem_append_right _ (List.mem_append_right _ (List.mem_append_right _ (List.mem_of_getElem? h)))
theorem am_inP {q : MethodName × Nat} (h : q ∈ lw_privs) (g : goodWord (Cond.selects q.1.cls q.1 q.1) = true) : Cond.selects q.1.cls q.1 q.1 ∈ am_TB := List.mem_filter.mpr ⟨List.mem_append_left _ (List.mem_map.mpr ⟨q, h, rfl⟩), g⟩
def am_mP (mi : Nat) : Prop := Cond.code (am_m mi).1 (am_m mi).2.1 (am_m mi).2.2.1 (am_m mi).2.2.2.1 ∈ am_TB ∧ Cond.initialized (am_m mi).1.cls ∈ am_TB ∧ ((am_m mi).1.cls ≠ "java/lang/invoke/MethodHandle" ∧ (am_m mi).1.cls ≠ "java/lang/invoke/VarHandle") ∧ (am_m mi).2.2.1 ≤ 20 ∧ plainName (am_m mi).1.cls = true ∧ (am_m mi).1.cls = am_own (am_m mi).2.2.2.2
theorem am_m_0 : am_m 0 = (⟨"ThingsThrown", "<init>", "()V"⟩, prog_1_method_1_code, 2, none, 0) := rfl
theorem am_mP_0 : am_mP 0 := by unfold am_mP; rw [am_m_0]; exact ⟨am_in1 (i := 17) (by decide +kernel) rfl, am_in1 (i := 1) (by decide +kernel) rfl, by decide +kernel, by decide +kernel, by decide +kernel, by decide +kernel⟩
theorem am_m_1 : am_m 1 = (⟨"ThingsThrown$Telling", "<init>", "()V"⟩, prog_7_method_1_code, 1, none, 5) := rfl
theorem am_mP_1 : am_mP 1 := by unfold am_mP; rw [am_m_1]; exact ⟨am_in1 (i := 27) (by decide +kernel) rfl, am_in1 (i := 2) (by decide +kernel) rfl, by decide +kernel, by decide +kernel, by decide +kernel, by decide +kernel⟩
theorem am_m_2 : am_m 2 = (⟨"ThingsThrown$Troupe", "<init>", "()V"⟩, prog_8_method_1_code, 1, none, 6) := rfl
theorem am_mP_2 : am_mP 2 := by unfold am_mP; rw [am_m_2]; exact ⟨am_in1 (i := 33) (by decide +kernel) rfl, am_in1 (i := 3) (by decide +kernel) rfl, by decide +kernel, by decide +kernel, by decide +kernel, by decide +kernel⟩
theorem am_m_3 : am_m 3 = (⟨"ThingsThrown$Evening", "<init>", "()V"⟩, prog_3_method_1_code, 1, none, 2) := rfl
theorem am_mP_3 : am_mP 3 := by unfold am_mP; rw [am_m_3]; exact ⟨am_in1 (i := 62) (by decide +kernel) rfl, am_in1 (i := 4) (by decide +kernel) rfl, by decide +kernel, by decide +kernel, by decide +kernel, by decide +kernel⟩
theorem am_m_4 : am_m 4 = (⟨"ThingsThrown$Outlook", "<init>", "(LThingsThrown$Troupe;)V"⟩, prog_5_method_1_code, 2, none, 3) := rfl
theorem am_mP_4 : am_mP 4 := by unfold am_mP; rw [am_m_4]; exact ⟨am_in1 (i := 95) (by decide +kernel) rfl, am_in1 (i := 5) (by decide +kernel) rfl, by decide +kernel, by decide +kernel, by decide +kernel, by decide +kernel⟩
theorem am_m_5 : am_m 5 = (⟨"ThingsThrown$Chances", "<init>", "(LThingsThrown$Troupe;)V"⟩, prog_2_method_1_code, 2, none, 1) := rfl
theorem am_mP_5 : am_mP 5 := by unfold am_mP; rw [am_m_5]; exact ⟨am_in1 (i := 117) (by decide +kernel) rfl, am_in1 (i := 6) (by decide +kernel) rfl, by decide +kernel, by decide +kernel, by decide +kernel, by decide +kernel⟩
theorem am_m_6 : am_m 6 = (⟨"ThingsThrown$Sheet", "<init>", "([I)V"⟩, prog_6_method_1_code, 2, none, 4) := rfl
theorem am_mP_6 : am_mP 6 := by unfold am_mP; rw [am_m_6]; exact ⟨am_in1 (i := 126) (by decide +kernel) rfl, am_in1 (i := 7) (by decide +kernel) rfl, by decide +kernel, by decide +kernel, by decide +kernel, by decide +kernel⟩
theorem am_m_7 : am_m 7 = (⟨"ThingsThrown$Evening", "forget", "()V"⟩, prog_3_method_3_code, 1, none, 2) := rfl
theorem am_mP_7 : am_mP 7 := by unfold am_mP; rw [am_m_7]; exact ⟨am_in1 (i := 148) (by decide +kernel) rfl, am_in1 (i := 4) (by decide +kernel) rfl, by decide +kernel, by decide +kernel, by decide +kernel, by decide +kernel⟩
theorem am_m_8 : am_m 8 = (⟨"ThingsThrown", "row", "(II)I"⟩, prog_1_method_2_code, 3, some .int, 0) := rfl
theorem am_mP_8 : am_mP 8 := by unfold am_mP; rw [am_m_8]; exact ⟨am_in1 (i := 192) (by decide +kernel) rfl, am_in1 (i := 1) (by decide +kernel) rfl, by decide +kernel, by decide +kernel, by decide +kernel, by decide +kernel⟩
theorem am_m_9 : am_m 9 = (⟨"ThingsThrown", "isRow", "(I)Z"⟩, prog_1_method_41_code, 1, some .boolean, 0) := rfl
theorem am_mP_9 : am_mP 9 := by unfold am_mP; rw [am_m_9]; exact ⟨am_in1 (i := 195) (by decide +kernel) rfl, am_in1 (i := 1) (by decide +kernel) rfl, by decide +kernel, by decide +kernel, by decide +kernel, by decide +kernel⟩
theorem am_m_10 : am_m 10 = (⟨"ThingsThrown", "found", "(I)I"⟩, prog_1_method_47_code, 2, some .int, 0) := rfl
theorem am_mP_10 : am_mP 10 := by unfold am_mP; rw [am_m_10]; exact ⟨am_in1 (i := 199) (by decide +kernel) rfl, am_in1 (i := 1) (by decide +kernel) rfl, by decide +kernel, by decide +kernel, by decide +kernel, by decide +kernel⟩
theorem am_m_11 : am_m 11 = (⟨"ThingsThrown$Sheet", "begin", "(II)V"⟩, prog_6_method_2_code, 4, none, 4) := rfl
theorem am_mP_11 : am_mP 11 := by unfold am_mP; rw [am_m_11]; exact ⟨am_in1 (i := 203) (by decide +kernel) rfl, am_in1 (i := 7) (by decide +kernel) rfl, by decide +kernel, by decide +kernel, by decide +kernel, by decide +kernel⟩
theorem am_m_12 : am_m 12 = (⟨"ThingsThrown", "lay", "(III)I"⟩, prog_1_method_3_code, 6, some .int, 0) := rfl
theorem am_mP_12 : am_mP 12 := by unfold am_mP; rw [am_m_12]; exact ⟨am_in1 (i := 213) (by decide +kernel) rfl, am_in1 (i := 1) (by decide +kernel) rfl, by decide +kernel, by decide +kernel, by decide +kernel, by decide +kernel⟩
theorem am_m_13 : am_m 13 = (⟨"ThingsThrown", "refusalOfPlace", "(II)I"⟩, prog_1_method_49_code, 4, some .int, 0) := rfl
theorem am_mP_13 : am_mP 13 := by unfold am_mP; rw [am_m_13]; exact ⟨am_in1 (i := 217) (by decide +kernel) rfl, am_in1 (i := 1) (by decide +kernel) rfl, by decide +kernel, by decide +kernel, by decide +kernel, by decide +kernel⟩
theorem am_m_14 : am_m 14 = (⟨"ThingsThrown", "refusalOfRow", "(I)I"⟩, prog_1_method_48_code, 2, some .int, 0) := rfl
theorem am_mP_14 : am_mP 14 := by unfold am_mP; rw [am_m_14]; exact ⟨am_in1 (i := 221) (by decide +kernel) rfl, am_in1 (i := 1) (by decide +kernel) rfl, by decide +kernel, by decide +kernel, by decide +kernel, by decide +kernel⟩
theorem am_m_15 : am_m 15 = (⟨"ThingsThrown$Sheet", "isMissing", "()Z"⟩, prog_6_method_3_code, 1, some .boolean, 4) := rfl
theorem am_mP_15 : am_mP 15 := by unfold am_mP; rw [am_m_15]; exact ⟨am_in1 (i := 225) (by decide +kernel) rfl, am_in1 (i := 7) (by decide +kernel) rfl, by decide +kernel, by decide +kernel, by decide +kernel, by decide +kernel⟩
theorem am_m_16 : am_m 16 = (⟨"ThingsThrown$Sheet", "has", "(I)Z"⟩, prog_6_method_4_code, 2, some .boolean, 4) := rfl
theorem am_mP_16 : am_mP 16 := by unfold am_mP; rw [am_m_16]; exact ⟨am_in1 (i := 229) (by decide +kernel) rfl, am_in1 (i := 7) (by decide +kernel) rfl, by decide +kernel, by decide +kernel, by decide +kernel, by decide +kernel⟩
theorem am_m_17 : am_m 17 = (⟨"ThingsThrown", "tell", "(I)I"⟩, prog_1_method_54_code, 2, some .int, 0) := rfl
theorem am_mP_17 : am_mP 17 := by unfold am_mP; rw [am_m_17]; exact ⟨am_in1 (i := 233) (by decide +kernel) rfl, am_in1 (i := 1) (by decide +kernel) rfl, by decide +kernel, by decide +kernel, by decide +kernel, by decide +kernel⟩
theorem am_m_18 : am_m 18 = (⟨"ThingsThrown", "at", "(II)I"⟩, prog_1_method_4_code, 4, some .int, 0) := rfl
theorem am_mP_18 : am_mP 18 := by unfold am_mP; rw [am_m_18]; exact ⟨am_in1 (i := 237) (by decide +kernel) rfl, am_in1 (i := 1) (by decide +kernel) rfl, by decide +kernel, by decide +kernel, by decide +kernel, by decide +kernel⟩
theorem am_m_19 : am_m 19 = (⟨"ThingsThrown", "tear", "(I)I"⟩, prog_1_method_5_code, 3, some .int, 0) := rfl
theorem am_mP_19 : am_mP 19 := by unfold am_mP; rw [am_m_19]; exact ⟨am_in2 (i := 1) (by decide +kernel) rfl, am_in1 (i := 1) (by decide +kernel) rfl, by decide +kernel, by decide +kernel, by decide +kernel, by decide +kernel⟩
theorem am_m_20 : am_m 20 = (⟨"ThingsThrown", "copy", "(IIIII)I"⟩, prog_1_method_6_code, 6, some .int, 0) := rfl
theorem am_mP_20 : am_mP 20 := by unfold am_mP; rw [am_m_20]; exact ⟨am_in2 (i := 5) (by decide +kernel) rfl, am_in1 (i := 1) (by decide +kernel) rfl, by decide +kernel, by decide +kernel, by decide +kernel, by decide +kernel⟩
theorem am_m_21 : am_m 21 = (⟨"ThingsThrown$Sheet", "hasPart", "(II)Z"⟩, prog_6_method_5_code, 3, some .boolean, 4) := rfl
theorem am_mP_21 : am_mP 21 := by unfold am_mP; rw [am_m_21]; exact ⟨am_in2 (i := 9) (by decide +kernel) rfl, am_in1 (i := 7) (by decide +kernel) rfl, by decide +kernel, by decide +kernel, by decide +kernel, by decide +kernel⟩
theorem am_m_22 : am_m 22 = (⟨"ThingsThrown", "mean", "(I)I"⟩, prog_1_method_7_code, 7, some .int, 0) := rfl
theorem am_mP_22 : am_mP 22 := by unfold am_mP; rw [am_m_22]; exact ⟨am_in2 (i := 16) (by decide +kernel) rfl, am_in1 (i := 1) (by decide +kernel) rfl, by decide +kernel, by decide +kernel, by decide +kernel, by decide +kernel⟩
theorem am_m_23 : am_m 23 = (⟨"ThingsThrown", "text", "(II)I"⟩, prog_1_method_8_code, 3, some .int, 0) := rfl
theorem am_mP_23 : am_mP 23 := by unfold am_mP; rw [am_m_23]; exact ⟨am_in2 (i := 20) (by decide +kernel) rfl, am_in1 (i := 1) (by decide +kernel) rfl, by decide +kernel, by decide +kernel, by decide +kernel, by decide +kernel⟩
theorem am_m_24 : am_m 24 = (⟨"ThingsThrown", "isText", "(I)Z"⟩, prog_1_method_42_code, 1, some .boolean, 0) := rfl
theorem am_mP_24 : am_mP 24 := by unfold am_mP; rw [am_m_24]; exact ⟨am_in2 (i := 23) (by decide +kernel) rfl, am_in1 (i := 1) (by decide +kernel) rfl, by decide +kernel, by decide +kernel, by decide +kernel, by decide +kernel⟩
theorem am_m_25 : am_m 25 = (⟨"ThingsThrown", "put", "(III)I"⟩, prog_1_method_9_code, 6, some .int, 0) := rfl
theorem am_mP_25 : am_mP 25 := by unfold am_mP; rw [am_m_25]; exact ⟨am_in2 (i := 27) (by decide +kernel) rfl, am_in1 (i := 1) (by decide +kernel) rfl, by decide +kernel, by decide +kernel, by decide +kernel, by decide +kernel⟩
theorem am_m_26 : am_m 26 = (⟨"ThingsThrown", "refusalOfText", "(I)I"⟩, prog_1_method_50_code, 2, some .int, 0) := rfl
theorem am_mP_26 : am_mP 26 := by unfold am_mP; rw [am_m_26]; exact ⟨am_in2 (i := 31) (by decide +kernel) rfl, am_in1 (i := 1) (by decide +kernel) rfl, by decide +kernel, by decide +kernel, by decide +kernel, by decide +kernel⟩
theorem am_m_27 : am_m 27 = (⟨"ThingsThrown", "fault", "(I)I"⟩, prog_1_method_10_code, 3, some .int, 0) := rfl
theorem am_mP_27 : am_mP 27 := by unfold am_mP; rw [am_m_27]; exact ⟨am_in2 (i := 35) (by decide +kernel) rfl, am_in1 (i := 1) (by decide +kernel) rfl, by decide +kernel, by decide +kernel, by decide +kernel, by decide +kernel⟩
theorem am_m_28 : am_m 28 = (⟨"ThingsThrown$Telling", "read", "(LThingsThrown$Sheet;)I"⟩, prog_7_method_2_code, 4, some .int, 5) := rfl
theorem am_mP_28 : am_mP 28 := by unfold am_mP; rw [am_m_28]; exact ⟨am_in2 (i := 39) (by decide +kernel) rfl, am_in1 (i := 2) (by decide +kernel) rfl, by decide +kernel, by decide +kernel, by decide +kernel, by decide +kernel⟩
theorem am_m_29 : am_m 29 = (⟨"ThingsThrown$Troupe", "begin", "()V"⟩, prog_8_method_5_code, 1, none, 6) := rfl
theorem am_mP_29 : am_mP 29 := by unfold am_mP; rw [am_m_29]; exact ⟨am_in2 (i := 43) (by decide +kernel) rfl, am_in1 (i := 3) (by decide +kernel) rfl, by decide +kernel, by decide +kernel, by decide +kernel, by decide +kernel⟩
theorem am_m_30 : am_m 30 = (⟨"ThingsThrown$Kinds", "byLetter", "(I)I"⟩, prog_4_method_2_code, 2, some .int, 8) := rfl
theorem am_mP_30 : am_mP 30 := by unfold am_mP; rw [am_m_30]; exact ⟨am_in2 (i := 46) (by decide +kernel) rfl, am_in1 (i := 11) (by decide +kernel) rfl, by decide +kernel, by decide +kernel, by decide +kernel, by decide +kernel⟩
theorem am_m_31 : am_m 31 = (⟨"ThingsThrown$Telling", "isFreeFigure", "(I)Z"⟩, prog_7_method_3_code, 3, some .boolean, 5) := rfl
theorem am_mP_31 : am_mP 31 := by unfold am_mP; rw [am_m_31]; exact ⟨am_in2 (i := 52) (by decide +kernel) rfl, am_in1 (i := 2) (by decide +kernel) rfl, by decide +kernel, by decide +kernel, by decide +kernel, by decide +kernel⟩
theorem am_m_32 : am_m 32 = (⟨"ThingsThrown$Troupe", "sky", "(I)I"⟩, prog_8_method_8_code, 4, some .int, 6) := rfl
theorem am_mP_32 : am_mP 32 := by unfold am_mP; rw [am_m_32]; exact ⟨am_in2 (i := 56) (by decide +kernel) rfl, am_in1 (i := 3) (by decide +kernel) rfl, by decide +kernel, by decide +kernel, by decide +kernel, by decide +kernel⟩
theorem am_m_33 : am_m 33 = (⟨"ThingsThrown$Troupe", "due", "(II)I"⟩, prog_8_method_2_code, 2, some .int, 6) := rfl
theorem am_mP_33 : am_mP 33 := by unfold am_mP; rw [am_m_33]; exact ⟨am_in2 (i := 59) (by decide +kernel) rfl, am_in1 (i := 3) (by decide +kernel) rfl, by decide +kernel, by decide +kernel, by decide +kernel, by decide +kernel⟩
theorem am_m_34 : am_m 34 = (⟨"ThingsThrown$Troupe", "with", "(III)I"⟩, prog_8_method_3_code, 3, some .int, 6) := rfl
theorem am_mP_34 : am_mP 34 := by unfold am_mP; rw [am_m_34]; exact ⟨am_in2 (i := 62) (by decide +kernel) rfl, am_in1 (i := 3) (by decide +kernel) rfl, by decide +kernel, by decide +kernel, by decide +kernel, by decide +kernel⟩
theorem am_m_35 : am_m 35 = (⟨"ThingsThrown$Troupe", "add", "(I)V"⟩, prog_8_method_6_code, 2, none, 6) := rfl
theorem am_mP_35 : am_mP 35 := by unfold am_mP; rw [am_m_35]; exact ⟨am_in2 (i := 66) (by decide +kernel) rfl, am_in1 (i := 3) (by decide +kernel) rfl, by decide +kernel, by decide +kernel, by decide +kernel, by decide +kernel⟩
theorem am_m_36 : am_m 36 = (⟨"ThingsThrown", "things", "(I)I"⟩, prog_1_method_11_code, 4, some .int, 0) := rfl
theorem am_mP_36 : am_mP 36 := by unfold am_mP; rw [am_m_36]; exact ⟨am_in2 (i := 70) (by decide +kernel) rfl, am_in1 (i := 1) (by decide +kernel) rfl, by decide +kernel, by decide +kernel, by decide +kernel, by decide +kernel⟩
theorem am_m_37 : am_m 37 = (⟨"ThingsThrown$Troupe", "takeFrom", "(LThingsThrown$Troupe;)V"⟩, prog_8_method_7_code, 2, none, 6) := rfl
theorem am_mP_37 : am_mP 37 := by unfold am_mP; rw [am_m_37]; exact ⟨am_in2 (i := 74) (by decide +kernel) rfl, am_in1 (i := 3) (by decide +kernel) rfl, by decide +kernel, by decide +kernel, by decide +kernel, by decide +kernel⟩
theorem am_m_38 : am_m 38 = (⟨"ThingsThrown$Evening", "begin", "(I)V"⟩, prog_3_method_2_code, 3, none, 2) := rfl
theorem am_mP_38 : am_mP 38 := by unfold am_mP; rw [am_m_38]; exact ⟨am_in2 (i := 79) (by decide +kernel) rfl, am_in1 (i := 4) (by decide +kernel) rfl, by decide +kernel, by decide +kernel, by decide +kernel, by decide +kernel⟩
theorem am_m_39 : am_m 39 = (⟨"ThingsThrown", "thing", "(II)I"⟩, prog_1_method_12_code, 3, some .int, 0) := rfl
theorem am_mP_39 : am_mP 39 := by unfold am_mP; rw [am_m_39]; exact ⟨am_in2 (i := 83) (by decide +kernel) rfl, am_in1 (i := 1) (by decide +kernel) rfl, by decide +kernel, by decide +kernel, by decide +kernel, by decide +kernel⟩
theorem am_m_40 : am_m 40 = (⟨"ThingsThrown", "isThing", "(I)Z"⟩, prog_1_method_46_code, 2, some .boolean, 0) := rfl
theorem am_mP_40 : am_mP 40 := by unfold am_mP; rw [am_m_40]; exact ⟨am_in2 (i := 87) (by decide +kernel) rfl, am_in1 (i := 1) (by decide +kernel) rfl, by decide +kernel, by decide +kernel, by decide +kernel, by decide +kernel⟩
theorem am_m_41 : am_m 41 = (⟨"ThingsThrown", "ofThing", "(II)I"⟩, prog_1_method_57_code, 3, some .int, 0) := rfl
theorem am_mP_41 : am_mP 41 := by unfold am_mP; rw [am_m_41]; exact ⟨am_in2 (i := 91) (by decide +kernel) rfl, am_in1 (i := 1) (by decide +kernel) rfl, by decide +kernel, by decide +kernel, by decide +kernel, by decide +kernel⟩
theorem am_m_42 : am_m 42 = (⟨"ThingsThrown$Kinds", "heightsOf", "(I)I"⟩, prog_4_method_5_code, 1, some .int, 8) := rfl
theorem am_mP_42 : am_mP 42 := by unfold am_mP; rw [am_m_42]; exact ⟨am_in2 (i := 95) (by decide +kernel) rfl, am_in1 (i := 11) (by decide +kernel) rfl, by decide +kernel, by decide +kernel, by decide +kernel, by decide +kernel⟩
theorem am_m_43 : am_m 43 = (⟨"ThingsThrown", "mark", "(II)I"⟩, prog_1_method_13_code, 4, some .int, 0) := rfl
theorem am_mP_43 : am_mP 43 := by unfold am_mP; rw [am_m_43]; exact ⟨am_in2 (i := 103) (by decide +kernel) rfl, am_in1 (i := 1) (by decide +kernel) rfl, by decide +kernel, by decide +kernel, by decide +kernel, by decide +kernel⟩
theorem am_m_44 : am_m 44 = (⟨"ThingsThrown$Kinds", "isOf", "(II)Z"⟩, prog_4_method_3_code, 2, some .boolean, 8) := rfl
theorem am_mP_44 : am_mP 44 := by unfold am_mP; rw [am_m_44]; exact ⟨am_in2 (i := 106) (by decide +kernel) rfl, am_in1 (i := 11) (by decide +kernel) rfl, by decide +kernel, by decide +kernel, by decide +kernel, by decide +kernel⟩
theorem am_m_45 : am_m 45 = (⟨"ThingsThrown$Kinds", "heightsLater", "(I)I"⟩, prog_4_method_6_code, 3, some .int, 8) := rfl
theorem am_mP_45 : am_mP 45 := by unfold am_mP; rw [am_m_45]; exact ⟨am_in2 (i := 111) (by decide +kernel) rfl, am_in1 (i := 11) (by decide +kernel) rfl, by decide +kernel, by decide +kernel, by decide +kernel, by decide +kernel⟩
theorem am_m_46 : am_m 46 = (⟨"ThingsThrown$Kinds", "flight", "(II)I"⟩, prog_4_method_4_code, 2, some .int, 8) := rfl
theorem am_mP_46 : am_mP 46 := by unfold am_mP; rw [am_m_46]; exact ⟨am_in2 (i := 114) (by decide +kernel) rfl, am_in1 (i := 11) (by decide +kernel) rfl, by decide +kernel, by decide +kernel, by decide +kernel, by decide +kernel⟩
theorem am_m_47 : am_m 47 = (⟨"ThingsThrown$Kinds", "heightsSooner", "(I)I"⟩, prog_4_method_7_code, 3, some .int, 8) := rfl
theorem am_mP_47 : am_mP 47 := by unfold am_mP; rw [am_m_47]; exact ⟨am_in2 (i := 119) (by decide +kernel) rfl, am_in1 (i := 11) (by decide +kernel) rfl, by decide +kernel, by decide +kernel, by decide +kernel, by decide +kernel⟩
theorem am_m_48 : am_m 48 = (⟨"ThingsThrown$Troupe", "torchesAhead", "(II)I"⟩, prog_8_method_12_code, 5, some .int, 6) := rfl
theorem am_mP_48 : am_mP 48 := by unfold am_mP; rw [am_m_48]; exact ⟨am_in2 (i := 123) (by decide +kernel) rfl, am_in1 (i := 3) (by decide +kernel) rfl, by decide +kernel, by decide +kernel, by decide +kernel, by decide +kernel⟩
theorem am_m_49 : am_m 49 = (⟨"ThingsThrown$Troupe", "thingsBehind", "(II)I"⟩, prog_8_method_13_code, 5, some .int, 6) := rfl
theorem am_mP_49 : am_mP 49 := by unfold am_mP; rw [am_m_49]; exact ⟨am_in2 (i := 127) (by decide +kernel) rfl, am_in1 (i := 3) (by decide +kernel) rfl, by decide +kernel, by decide +kernel, by decide +kernel, by decide +kernel⟩
theorem am_m_50 : am_m 50 = (⟨"ThingsThrown", "toss", "(I)I"⟩, prog_1_method_14_code, 2, some .int, 0) := rfl
theorem am_mP_50 : am_mP 50 := by unfold am_mP; rw [am_m_50]; exact ⟨am_in2 (i := 131) (by decide +kernel) rfl, am_in1 (i := 1) (by decide +kernel) rfl, by decide +kernel, by decide +kernel, by decide +kernel, by decide +kernel⟩
theorem am_m_51 : am_m 51 = (⟨"ThingsThrown", "isHeight", "(I)Z"⟩, prog_1_method_43_code, 1, some .boolean, 0) := rfl
theorem am_mP_51 : am_mP 51 := by unfold am_mP; rw [am_m_51]; exact ⟨am_in2 (i := 134) (by decide +kernel) rfl, am_in1 (i := 1) (by decide +kernel) rfl, by decide +kernel, by decide +kernel, by decide +kernel, by decide +kernel⟩
theorem am_m_52 : am_m 52 = (⟨"ThingsThrown$Troupe", "mayGo", "(II)Z"⟩, prog_8_method_17_code, 4, some .boolean, 6) := rfl
theorem am_mP_52 : am_mP 52 := by unfold am_mP; rw [am_m_52]; exact ⟨am_in2 (i := 138) (by decide +kernel) rfl, am_in1 (i := 3) (by decide +kernel) rfl, by decide +kernel, by decide +kernel, by decide +kernel, by decide +kernel⟩
theorem am_m_53 : am_m 53 = (⟨"ThingsThrown$Troupe", "dueNow", "(I)I"⟩, prog_8_method_9_code, 3, some .int, 6) := rfl
theorem am_mP_53 : am_mP 53 := by unfold am_mP; rw [am_m_53]; exact ⟨am_in2 (i := 142) (by decide +kernel) rfl, am_in1 (i := 3) (by decide +kernel) rfl, by decide +kernel, by decide +kernel, by decide +kernel, by decide +kernel⟩
theorem am_m_54 : am_m 54 = (⟨"ThingsThrown$Troupe", "isFree", "(II)Z"⟩, prog_8_method_19_code, 2, some .boolean, 6) := rfl
theorem am_mP_54 : am_mP 54 := by unfold am_mP; rw [am_m_54]; exact ⟨am_in2 (i := 147) (by decide +kernel) rfl, am_in1 (i := 3) (by decide +kernel) rfl, by decide +kernel, by decide +kernel, by decide +kernel, by decide +kernel⟩
theorem am_m_55 : am_m 55 = (⟨"ThingsThrown$Evening", "isFull", "()Z"⟩, prog_3_method_5_code, 1, some .boolean, 2) := rfl
theorem am_mP_55 : am_mP 55 := by unfold am_mP; rw [am_m_55]; exact ⟨am_in2 (i := 151) (by decide +kernel) rfl, am_in1 (i := 4) (by decide +kernel) rfl, by decide +kernel, by decide +kernel, by decide +kernel, by decide +kernel⟩
theorem am_m_56 : am_m 56 = (⟨"ThingsThrown", "enterThrow", "(I)V"⟩, prog_1_method_61_code, 3, none, 0) := rfl
theorem am_mP_56 : am_mP 56 := by unfold am_mP; rw [am_m_56]; exact ⟨am_in2 (i := 155) (by decide +kernel) rfl, am_in1 (i := 1) (by decide +kernel) rfl, by decide +kernel, by decide +kernel, by decide +kernel, by decide +kernel⟩
theorem am_m_57 : am_m 57 = (⟨"ThingsThrown$Troupe", "thrown", "(II)I"⟩, prog_8_method_20_code, 4, some .int, 6) := rfl
theorem am_mP_57 : am_mP 57 := by unfold am_mP; rw [am_m_57]; exact ⟨am_in2 (i := 160) (by decide +kernel) rfl, am_in1 (i := 3) (by decide +kernel) rfl, by decide +kernel, by decide +kernel, by decide +kernel, by decide +kernel⟩
theorem am_m_58 : am_m 58 = (⟨"ThingsThrown$Troupe", "later", "(II)I"⟩, prog_8_method_15_code, 3, some .int, 6) := rfl
theorem am_mP_58 : am_mP 58 := by unfold am_mP; rw [am_m_58]; exact ⟨am_in2 (i := 165) (by decide +kernel) rfl, am_in1 (i := 3) (by decide +kernel) rfl, by decide +kernel, by decide +kernel, by decide +kernel, by decide +kernel⟩
theorem am_m_59 : am_m 59 = (⟨"ThingsThrown$Evening", "enter", "(III)V"⟩, prog_3_method_6_code, 4, none, 2) := rfl
theorem am_mP_59 : am_mP 59 := by unfold am_mP; rw [am_m_59]; exact ⟨am_in2 (i := 170) (by decide +kernel) rfl, am_in1 (i := 4) (by decide +kernel) rfl, by decide +kernel, by decide +kernel, by decide +kernel, by decide +kernel⟩
theorem am_m_60 : am_m 60 = (⟨"ThingsThrown$Evening", "isForgotten", "()Z"⟩, prog_3_method_4_code, 1, some .boolean, 2) := rfl
theorem am_mP_60 : am_mP 60 := by unfold am_mP; rw [am_m_60]; exact ⟨am_in2 (i := 174) (by decide +kernel) rfl, am_in1 (i := 4) (by decide +kernel) rfl, by decide +kernel, by decide +kernel, by decide +kernel, by decide +kernel⟩
theorem am_m_61 : am_m 61 = (⟨"ThingsThrown", "skyNow", "()I"⟩, prog_1_method_58_code, 1, some .int, 0) := rfl
theorem am_mP_61 : am_mP 61 := by unfold am_mP; rw [am_m_61]; exact ⟨am_in2 (i := 179) (by decide +kernel) rfl, am_in1 (i := 1) (by decide +kernel) rfl, by decide +kernel, by decide +kernel, by decide +kernel, by decide +kernel⟩
theorem am_m_62 : am_m 62 = (⟨"ThingsThrown", "rest", "()I"⟩, prog_1_method_15_code, 1, some .int, 0) := rfl
theorem am_mP_62 : am_mP 62 := by unfold am_mP; rw [am_m_62]; exact ⟨am_in2 (i := 184) (by decide +kernel) rfl, am_in1 (i := 1) (by decide +kernel) rfl, by decide +kernel, by decide +kernel, by decide +kernel, by decide +kernel⟩
theorem am_m_63 : am_m 63 = (⟨"ThingsThrown", "enterRest", "()V"⟩, prog_1_method_62_code, 1, none, 0) := rfl
theorem am_mP_63 : am_mP 63 := by unfold am_mP; rw [am_m_63]; exact ⟨am_in2 (i := 188) (by decide +kernel) rfl, am_in1 (i := 1) (by decide +kernel) rfl, by decide +kernel, by decide +kernel, by decide +kernel, by decide +kernel⟩
theorem am_m_64 : am_m 64 = (⟨"ThingsThrown", "exchange", "(II)I"⟩, prog_1_method_16_code, 3, some .int, 0) := rfl
theorem am_mP_64 : am_mP 64 := by unfold am_mP; rw [am_m_64]; exact ⟨am_in2 (i := 193) (by decide +kernel) rfl, am_in1 (i := 1) (by decide +kernel) rfl, by decide +kernel, by decide +kernel, by decide +kernel, by decide +kernel⟩
theorem am_m_65 : am_m 65 = (⟨"ThingsThrown", "enterExchange", "(II)V"⟩, prog_1_method_63_code, 3, none, 0) := rfl
theorem am_mP_65 : am_mP 65 := by unfold am_mP; rw [am_m_65]; exact ⟨am_in2 (i := 197) (by decide +kernel) rfl, am_in1 (i := 1) (by decide +kernel) rfl, by decide +kernel, by decide +kernel, by decide +kernel, by decide +kernel⟩
theorem am_m_66 : am_m 66 = (⟨"ThingsThrown$Troupe", "exchanged", "(III)I"⟩, prog_8_method_4_code, 3, some .int, 6) := rfl
theorem am_mP_66 : am_mP 66 := by unfold am_mP; rw [am_m_66]; exact ⟨am_in2 (i := 200) (by decide +kernel) rfl, am_in1 (i := 3) (by decide +kernel) rfl, by decide +kernel, by decide +kernel, by decide +kernel, by decide +kernel⟩
theorem am_m_67 : am_m 67 = (⟨"ThingsThrown", "undo", "(I)I"⟩, prog_1_method_17_code, 3, some .int, 0) := rfl
theorem am_mP_67 : am_mP 67 := by unfold am_mP; rw [am_m_67]; exact ⟨am_in2 (i := 204) (by decide +kernel) rfl, am_in1 (i := 1) (by decide +kernel) rfl, by decide +kernel, by decide +kernel, by decide +kernel, by decide +kernel⟩
theorem am_m_68 : am_m 68 = (⟨"ThingsThrown$Evening", "takeBack", "(I)V"⟩, prog_3_method_7_code, 3, none, 2) := rfl
theorem am_mP_68 : am_mP 68 := by unfold am_mP; rw [am_m_68]; exact ⟨am_in2 (i := 208) (by decide +kernel) rfl, am_in1 (i := 4) (by decide +kernel) rfl, by decide +kernel, by decide +kernel, by decide +kernel, by decide +kernel⟩
theorem am_m_69 : am_m 69 = (⟨"ThingsThrown", "keep", "(I)I"⟩, prog_1_method_18_code, 2, some .int, 0) := rfl
theorem am_mP_69 : am_mP 69 := by unfold am_mP; rw [am_m_69]; exact ⟨am_in2 (i := 212) (by decide +kernel) rfl, am_in1 (i := 1) (by decide +kernel) rfl, by decide +kernel, by decide +kernel, by decide +kernel, by decide +kernel⟩
theorem am_m_70 : am_m 70 = (⟨"ThingsThrown", "isPlaceKept", "(I)Z"⟩, prog_1_method_45_code, 1, some .boolean, 0) := rfl
theorem am_mP_70 : am_mP 70 := by unfold am_mP; rw [am_m_70]; exact ⟨am_in2 (i := 215) (by decide +kernel) rfl, am_in1 (i := 1) (by decide +kernel) rfl, by decide +kernel, by decide +kernel, by decide +kernel, by decide +kernel⟩
theorem am_m_71 : am_m 71 = (⟨"ThingsThrown$Evening", "takeFrom", "(LThingsThrown$Evening;)V"⟩, prog_3_method_9_code, 2, none, 2) := rfl
theorem am_mP_71 : am_mP 71 := by unfold am_mP; rw [am_m_71]; exact ⟨am_in2 (i := 219) (by decide +kernel) rfl, am_in1 (i := 4) (by decide +kernel) rfl, by decide +kernel, by decide +kernel, by decide +kernel, by decide +kernel⟩
theorem am_m_72 : am_m 72 = (⟨"ThingsThrown", "on", "(I)I"⟩, prog_1_method_19_code, 2, some .int, 0) := rfl
theorem am_mP_72 : am_mP 72 := by unfold am_mP; rw [am_m_72]; exact ⟨am_in2 (i := 224) (by decide +kernel) rfl, am_in1 (i := 1) (by decide +kernel) rfl, by decide +kernel, by decide +kernel, by decide +kernel, by decide +kernel⟩
theorem am_m_73 : am_m 73 = (⟨"ThingsThrown", "lands", "(II)I"⟩, prog_1_method_20_code, 3, some .int, 0) := rfl
theorem am_mP_73 : am_mP 73 := by unfold am_mP; rw [am_m_73]; exact ⟨am_in2 (i := 229) (by decide +kernel) rfl, am_in1 (i := 1) (by decide +kernel) rfl, by decide +kernel, by decide +kernel, by decide +kernel, by decide +kernel⟩
theorem am_m_74 : am_m 74 = (⟨"ThingsThrown", "may", "()I"⟩, prog_1_method_21_code, 2, some .int, 0) := rfl
theorem am_mP_74 : am_mP 74 := by unfold am_mP; rw [am_m_74]; exact ⟨am_in2 (i := 234) (by decide +kernel) rfl, am_in1 (i := 1) (by decide +kernel) rfl, by decide +kernel, by decide +kernel, by decide +kernel, by decide +kernel⟩
theorem am_m_75 : am_m 75 = (⟨"ThingsThrown$Troupe", "heightsNow", "(I)I"⟩, prog_8_method_18_code, 6, some .int, 6) := rfl
theorem am_mP_75 : am_mP 75 := by unfold am_mP; rw [am_m_75]; exact ⟨am_in2 (i := 238) (by decide +kernel) rfl, am_in1 (i := 3) (by decide +kernel) rfl, by decide +kernel, by decide +kernel, by decide +kernel, by decide +kernel⟩
theorem am_m_76 : am_m 76 = (⟨"ThingsThrown", "run", "(I)I"⟩, prog_1_method_22_code, 4, some .int, 0) := rfl
theorem am_mP_76 : am_mP 76 := by unfold am_mP; rw [am_m_76]; exact ⟨am_in3 (i := 2) (by decide +kernel) rfl, am_in1 (i := 1) (by decide +kernel) rfl, by decide +kernel, by decide +kernel, by decide +kernel, by decide +kernel⟩
theorem am_m_77 : am_m 77 = (⟨"ThingsThrown", "refusalOfThrows", "(III)I"⟩, prog_1_method_51_code, 7, some .int, 0) := rfl
theorem am_mP_77 : am_mP 77 := by unfold am_mP; rw [am_m_77]; exact ⟨am_in3 (i := 6) (by decide +kernel) rfl, am_in1 (i := 1) (by decide +kernel) rfl, by decide +kernel, by decide +kernel, by decide +kernel, by decide +kernel⟩
theorem am_m_78 : am_m 78 = (⟨"ThingsThrown$Outlook", "throwsMade", "(ILThingsThrown$Sheet;)I"⟩, prog_5_method_2_code, 4, some .int, 3) := rfl
theorem am_mP_78 : am_mP 78 := by unfold am_mP; rw [am_m_78]; exact ⟨am_in3 (i := 10) (by decide +kernel) rfl, am_in1 (i := 5) (by decide +kernel) rfl, by decide +kernel, by decide +kernel, by decide +kernel, by decide +kernel⟩
theorem am_m_79 : am_m 79 = (⟨"ThingsThrown$Troupe", "rested", "(I)I"⟩, prog_8_method_16_code, 2, some .int, 6) := rfl
theorem am_mP_79 : am_mP 79 := by unfold am_mP; rw [am_m_79]; exact ⟨am_in3 (i := 14) (by decide +kernel) rfl, am_in1 (i := 3) (by decide +kernel) rfl, by decide +kernel, by decide +kernel, by decide +kernel, by decide +kernel⟩
theorem am_m_80 : am_m 80 = (⟨"ThingsThrown$Troupe", "restsAhead", "(I)I"⟩, prog_8_method_14_code, 4, some .int, 6) := rfl
theorem am_mP_80 : am_mP 80 := by unfold am_mP; rw [am_m_80]; exact ⟨am_in3 (i := 18) (by decide +kernel) rfl, am_in1 (i := 3) (by decide +kernel) rfl, by decide +kernel, by decide +kernel, by decide +kernel, by decide +kernel⟩
theorem am_m_81 : am_m 81 = (⟨"ThingsThrown", "rounds", "(I)I"⟩, prog_1_method_23_code, 3, some .int, 0) := rfl
theorem am_mP_81 : am_mP 81 := by unfold am_mP; rw [am_m_81]; exact ⟨am_in3 (i := 25) (by decide +kernel) rfl, am_in1 (i := 1) (by decide +kernel) rfl, by decide +kernel, by decide +kernel, by decide +kernel, by decide +kernel⟩
theorem am_m_82 : am_m 82 = (⟨"ThingsThrown$Outlook", "roundsBack", "(ILThingsThrown$Sheet;)I"⟩, prog_5_method_3_code, 5, some .int, 3) := rfl
theorem am_mP_82 : am_mP 82 := by unfold am_mP; rw [am_m_82]; exact ⟨am_in3 (i := 29) (by decide +kernel) rfl, am_in1 (i := 5) (by decide +kernel) rfl, by decide +kernel, by decide +kernel, by decide +kernel, by decide +kernel⟩
theorem am_m_83 : am_m 83 = (⟨"ThingsThrown$Outlook", "comesToDues", "(II)Z"⟩, prog_5_method_4_code, 5, some .boolean, 3) := rfl
theorem am_mP_83 : am_mP 83 := by unfold am_mP; rw [am_m_83]; exact ⟨am_in3 (i := 34) (by decide +kernel) rfl, am_in1 (i := 5) (by decide +kernel) rfl, by decide +kernel, by decide +kernel, by decide +kernel, by decide +kernel⟩
theorem am_m_84 : am_m 84 = (⟨"ThingsThrown", "fewest", "(II)I"⟩, prog_1_method_24_code, 4, some .int, 0) := rfl
theorem am_mP_84 : am_mP 84 := by unfold am_mP; rw [am_m_84]; exact ⟨am_in3 (i := 40) (by decide +kernel) rfl, am_in1 (i := 1) (by decide +kernel) rfl, by decide +kernel, by decide +kernel, by decide +kernel, by decide +kernel⟩
theorem am_m_85 : am_m 85 = (⟨"ThingsThrown", "isSky", "(I)Z"⟩, prog_1_method_44_code, 1, some .boolean, 0) := rfl
theorem am_mP_85 : am_mP 85 := by unfold am_mP; rw [am_m_85]; exact ⟨am_in3 (i := 43) (by decide +kernel) rfl, am_in1 (i := 1) (by decide +kernel) rfl, by decide +kernel, by decide +kernel, by decide +kernel, by decide +kernel⟩
theorem am_m_86 : am_m 86 = (⟨"ThingsThrown$Outlook", "fewestTo", "(II)I"⟩, prog_5_method_6_code, 4, some .int, 3) := rfl
theorem am_mP_86 : am_mP 86 := by unfold am_mP; rw [am_m_86]; exact ⟨am_in3 (i := 48) (by decide +kernel) rfl, am_in1 (i := 5) (by decide +kernel) rfl, by decide +kernel, by decide +kernel, by decide +kernel, by decide +kernel⟩
theorem am_m_87 : am_m 87 = (⟨"java/lang/Integer", "bitCount", "(I)I"⟩, prog_11_method_49_code, 1, some .int, 9) := rfl
theorem am_mP_87 : am_mP 87 := by unfold am_mP; rw [am_m_87]; exact ⟨am_in3 (i := 51) (by decide +kernel) rfl, am_in1 (i := 12) (by decide +kernel) rfl, by decide +kernel, by decide +kernel, by decide +kernel, by decide +kernel⟩
theorem am_m_88 : am_m 88 = (⟨"ThingsThrown$Outlook", "leadsTo", "(IIII)Z"⟩, prog_5_method_7_code, 8, some .boolean, 3) := rfl
theorem am_mP_88 : am_mP 88 := by unfold am_mP; rw [am_m_88]; exact ⟨am_in3 (i := 58) (by decide +kernel) rfl, am_in1 (i := 5) (by decide +kernel) rfl, by decide +kernel, by decide +kernel, by decide +kernel, by decide +kernel⟩
theorem am_m_89 : am_m 89 = (⟨"ThingsThrown$Outlook", "comesToSky", "(II)Z"⟩, prog_5_method_5_code, 6, some .boolean, 3) := rfl
theorem am_mP_89 : am_mP 89 := by unfold am_mP; rw [am_m_89]; exact ⟨am_in3 (i := 62) (by decide +kernel) rfl, am_in1 (i := 5) (by decide +kernel) rfl, by decide +kernel, by decide +kernel, by decide +kernel, by decide +kernel⟩
theorem am_m_90 : am_m 90 = (⟨"ThingsThrown", "ways", "(I)I"⟩, prog_1_method_25_code, 2, some .int, 0) := rfl
theorem am_mP_90 : am_mP 90 := by unfold am_mP; rw [am_m_90]; exact ⟨am_in3 (i := 68) (by decide +kernel) rfl, am_in1 (i := 1) (by decide +kernel) rfl, by decide +kernel, by decide +kernel, by decide +kernel, by decide +kernel⟩
theorem am_m_91 : am_m 91 = (⟨"ThingsThrown$Outlook", "waysBack", "(II)J"⟩, prog_5_method_8_code, 11, some .long, 3) := rfl
theorem am_mP_91 : am_mP 91 := by unfold am_mP; rw [am_m_91]; exact ⟨am_in3 (i := 72) (by decide +kernel) rfl, am_in1 (i := 5) (by decide +kernel) rfl, by decide +kernel, by decide +kernel, by decide +kernel, by decide +kernel⟩
theorem am_m_92 : am_m 92 = (⟨"ThingsThrown$Outlook", "waysTo", "(III)J"⟩, prog_5_method_9_code, 9, some .long, 3) := rfl
theorem am_mP_92 : am_mP 92 := by unfold am_mP; rw [am_m_92]; exact ⟨am_in3 (i := 76) (by decide +kernel) rfl, am_in1 (i := 5) (by decide +kernel) rfl, by decide +kernel, by decide +kernel, by decide +kernel, by decide +kernel⟩
theorem am_m_93 : am_m 93 = (⟨"ThingsThrown", "tellRatio", "(JJ)I"⟩, prog_1_method_55_code, 7, some .int, 0) := rfl
theorem am_mP_93 : am_mP 93 := by unfold am_mP; rw [am_m_93]; exact ⟨am_in3 (i := 80) (by decide +kernel) rfl, am_in1 (i := 1) (by decide +kernel) rfl, by decide +kernel, by decide +kernel, by decide +kernel, by decide +kernel⟩
theorem am_m_94 : am_m 94 = (⟨"ThingsThrown", "sharedDivisor", "(JJ)J"⟩, prog_1_method_56_code, 11, some .long, 0) := rfl
theorem am_mP_94 : am_mP 94 := by unfold am_mP; rw [am_m_94]; exact ⟨am_in3 (i := 83) (by decide +kernel) rfl, am_in1 (i := 1) (by decide +kernel) rfl, by decide +kernel, by decide +kernel, by decide +kernel, by decide +kernel⟩
theorem am_m_95 : am_m 95 = (⟨"ThingsThrown", "height", "(I)I"⟩, prog_1_method_26_code, 2, some .int, 0) := rfl
theorem am_mP_95 : am_mP 95 := by unfold am_mP; rw [am_m_95]; exact ⟨am_in3 (i := 87) (by decide +kernel) rfl, am_in1 (i := 1) (by decide +kernel) rfl, by decide +kernel, by decide +kernel, by decide +kernel, by decide +kernel⟩
theorem am_m_96 : am_m 96 = (⟨"ThingsThrown$Outlook", "heightsTo", "(II)I"⟩, prog_5_method_10_code, 6, some .int, 3) := rfl
theorem am_mP_96 : am_mP 96 := by unfold am_mP; rw [am_m_96]; exact ⟨am_in3 (i := 91) (by decide +kernel) rfl, am_in1 (i := 5) (by decide +kernel) rfl, by decide +kernel, by decide +kernel, by decide +kernel, by decide +kernel⟩
theorem am_m_97 : am_m 97 = (⟨"ThingsThrown", "kinds", "(II)I"⟩, prog_1_method_27_code, 4, some .int, 0) := rfl
theorem am_mP_97 : am_mP 97 := by unfold am_mP; rw [am_m_97]; exact ⟨am_in3 (i := 95) (by decide +kernel) rfl, am_in1 (i := 1) (by decide +kernel) rfl, by decide +kernel, by decide +kernel, by decide +kernel, by decide +kernel⟩
theorem am_m_98 : am_m 98 = (⟨"ThingsThrown", "refusalOfPairs", "(II)I"⟩, prog_1_method_53_code, 7, some .int, 0) := rfl
theorem am_mP_98 : am_mP 98 := by unfold am_mP; rw [am_m_98]; exact ⟨am_in3 (i := 99) (by decide +kernel) rfl, am_in1 (i := 1) (by decide +kernel) rfl, by decide +kernel, by decide +kernel, by decide +kernel, by decide +kernel⟩
theorem am_m_99 : am_m 99 = (⟨"ThingsThrown$Kinds", "fitting", "(LThingsThrown$Sheet;)I"⟩, prog_4_method_8_code, 3, some .int, 8) := rfl
theorem am_mP_99 : am_mP 99 := by unfold am_mP; rw [am_m_99]; exact ⟨am_in3 (i := 102) (by decide +kernel) rfl, am_in1 (i := 11) (by decide +kernel) rfl, by decide +kernel, by decide +kernel, by decide +kernel, by decide +kernel⟩
theorem am_m_100 : am_m 100 = (⟨"ThingsThrown$Kinds", "fits", "(ILThingsThrown$Sheet;)Z"⟩, prog_4_method_9_code, 3, some .boolean, 8) := rfl
theorem am_mP_100 : am_mP 100 := by unfold am_mP; rw [am_m_100]; exact ⟨am_in3 (i := 105) (by decide +kernel) rfl, am_in1 (i := 11) (by decide +kernel) rfl, by decide +kernel, by decide +kernel, by decide +kernel, by decide +kernel⟩
theorem am_m_101 : am_m 101 = (⟨"ThingsThrown", "next", "(II)I"⟩, prog_1_method_28_code, 6, some .int, 0) := rfl
theorem am_mP_101 : am_mP 101 := by unfold am_mP; rw [am_m_101]; exact ⟨am_in3 (i := 109) (by decide +kernel) rfl, am_in1 (i := 1) (by decide +kernel) rfl, by decide +kernel, by decide +kernel, by decide +kernel, by decide +kernel⟩
theorem am_m_102 : am_m 102 = (⟨"ThingsThrown$Kinds", "heightToTry", "(I)I"⟩, prog_4_method_10_code, 3, some .int, 8) := rfl
theorem am_mP_102 : am_mP 102 := by unfold am_mP; rw [am_m_102]; exact ⟨am_in3 (i := 112) (by decide +kernel) rfl, am_in1 (i := 11) (by decide +kernel) rfl, by decide +kernel, by decide +kernel, by decide +kernel, by decide +kernel⟩
theorem am_m_103 : am_m 103 = (⟨"ThingsThrown$Kinds", "greatestPart", "(II)I"⟩, prog_4_method_11_code, 4, some .int, 8) := rfl
theorem am_mP_103 : am_mP 103 := by unfold am_mP; rw [am_m_103]; exact ⟨am_in3 (i := 115) (by decide +kernel) rfl, am_in1 (i := 11) (by decide +kernel) rfl, by decide +kernel, by decide +kernel, by decide +kernel, by decide +kernel⟩
theorem am_m_104 : am_m 104 = (⟨"ThingsThrown$Kinds", "alike", "(III)I"⟩, prog_4_method_12_code, 5, some .int, 8) := rfl
theorem am_mP_104 : am_mP 104 := by unfold am_mP; rw [am_m_104]; exact ⟨am_in3 (i := 118) (by decide +kernel) rfl, am_in1 (i := 11) (by decide +kernel) rfl, by decide +kernel, by decide +kernel, by decide +kernel, by decide +kernel⟩
theorem am_m_105 : am_m 105 = (⟨"ThingsThrown", "duel", "(I)I"⟩, prog_1_method_29_code, 2, some .int, 0) := rfl
theorem am_mP_105 : am_mP 105 := by unfold am_mP; rw [am_m_105]; exact ⟨am_in3 (i := 123) (by decide +kernel) rfl, am_in1 (i := 1) (by decide +kernel) rfl, by decide +kernel, by decide +kernel, by decide +kernel, by decide +kernel⟩
theorem am_m_106 : am_m 106 = (⟨"ThingsThrown$Outlook", "bestByTurns", "(II)I"⟩, prog_5_method_11_code, 3, some .int, 3) := rfl
theorem am_mP_106 : am_mP 106 := by unfold am_mP; rw [am_m_106]; exact ⟨am_in3 (i := 127) (by decide +kernel) rfl, am_in1 (i := 5) (by decide +kernel) rfl, by decide +kernel, by decide +kernel, by decide +kernel, by decide +kernel⟩
theorem am_m_107 : am_m 107 = (⟨"ThingsThrown$Outlook", "bestFrom", "(II)I"⟩, prog_5_method_12_code, 9, some .int, 3) := rfl
theorem am_mP_107 : am_mP 107 := by unfold am_mP; rw [am_m_107]; exact ⟨am_in3 (i := 131) (by decide +kernel) rfl, am_in1 (i := 5) (by decide +kernel) rfl, by decide +kernel, by decide +kernel, by decide +kernel, by decide +kernel⟩
theorem am_m_108 : am_m 108 = (⟨"ThingsThrown$Troupe", "dueTogether", "(I)I"⟩, prog_8_method_10_code, 4, some .int, 6) := rfl
theorem am_mP_108 : am_mP 108 := by unfold am_mP; rw [am_m_108]; exact ⟨am_in3 (i := 135) (by decide +kernel) rfl, am_in1 (i := 3) (by decide +kernel) rfl, by decide +kernel, by decide +kernel, by decide +kernel, by decide +kernel⟩
theorem am_m_109 : am_m 109 = (⟨"ThingsThrown", "odds", "(II)I"⟩, prog_1_method_30_code, 6, some .int, 0) := rfl
theorem am_mP_109 : am_mP 109 := by unfold am_mP; rw [am_m_109]; exact ⟨am_in3 (i := 143) (by decide +kernel) rfl, am_in1 (i := 1) (by decide +kernel) rfl, by decide +kernel, by decide +kernel, by decide +kernel, by decide +kernel⟩
theorem am_m_110 : am_m 110 = (⟨"ThingsThrown", "refusalOfChances", "(II)I"⟩, prog_1_method_52_code, 3, some .int, 0) := rfl
theorem am_mP_110 : am_mP 110 := by unfold am_mP; rw [am_m_110]; exact ⟨am_in3 (i := 147) (by decide +kernel) rfl, am_in1 (i := 1) (by decide +kernel) rfl, by decide +kernel, by decide +kernel, by decide +kernel, by decide +kernel⟩
theorem am_m_111 : am_m 111 = (⟨"ThingsThrown$Chances", "weightOfAll", "(ILThingsThrown$Sheet;I)J"⟩, prog_2_method_3_code, 4, some .long, 1) := rfl
theorem am_mP_111 : am_mP 111 := by unfold am_mP; rw [am_m_111]; exact ⟨am_in3 (i := 151) (by decide +kernel) rfl, am_in1 (i := 6) (by decide +kernel) rfl, by decide +kernel, by decide +kernel, by decide +kernel, by decide +kernel⟩
theorem am_m_112 : am_m 112 = (⟨"ThingsThrown$Chances", "weightFrom", "(ILThingsThrown$Sheet;IIZ)J"⟩, prog_2_method_5_code, 13, some .long, 1) := rfl
theorem am_mP_112 : am_mP 112 := by unfold am_mP; rw [am_m_112]; exact ⟨am_in3 (i := 155) (by decide +kernel) rfl, am_in1 (i := 6) (by decide +kernel) rfl, by decide +kernel, by decide +kernel, by decide +kernel, by decide +kernel⟩
theorem am_m_113 : am_m 113 = (⟨"ThingsThrown$Chances", "weight", "(I)J"⟩, prog_2_method_2_code, 4, some .long, 1) := rfl
theorem am_mP_113 : am_mP 113 := by unfold am_mP; rw [am_m_113]; exact ⟨am_in3 (i := 160) (by decide +kernel) rfl, am_in1 (i := 6) (by decide +kernel) rfl, by decide +kernel, by decide +kernel, by decide +kernel, by decide +kernel⟩
theorem am_m_114 : am_m 114 = (⟨"ThingsThrown", "mid", "(II)I"⟩, prog_1_method_31_code, 6, some .int, 0) := rfl
theorem am_mP_114 : am_mP 114 := by unfold am_mP; rw [am_m_114]; exact ⟨am_in3 (i := 168) (by decide +kernel) rfl, am_in1 (i := 1) (by decide +kernel) rfl, by decide +kernel, by decide +kernel, by decide +kernel, by decide +kernel⟩
theorem am_m_115 : am_m 115 = (⟨"ThingsThrown$Chances", "weightOfMade", "(ILThingsThrown$Sheet;I)J"⟩, prog_2_method_4_code, 4, some .long, 1) := rfl
theorem am_mP_115 : am_mP 115 := by unfold am_mP; rw [am_m_115]; exact ⟨am_in3 (i := 172) (by decide +kernel) rfl, am_in1 (i := 6) (by decide +kernel) rfl, by decide +kernel, by decide +kernel, by decide +kernel, by decide +kernel⟩
theorem am_m_116 : am_m 116 = (⟨"ThingsThrown", "lots", "(II)I"⟩, prog_1_method_32_code, 6, some .int, 0) := rfl
theorem am_mP_116 : am_mP 116 := by unfold am_mP; rw [am_m_116]; exact ⟨am_in3 (i := 176) (by decide +kernel) rfl, am_in1 (i := 1) (by decide +kernel) rfl, by decide +kernel, by decide +kernel, by decide +kernel, by decide +kernel⟩
theorem am_m_117 : am_m 117 = (⟨"ThingsThrown", "enterByLot", "(I)V"⟩, prog_1_method_64_code, 3, none, 0) := rfl
theorem am_mP_117 : am_mP 117 := by unfold am_mP; rw [am_m_117]; exact ⟨am_in3 (i := 183) (by decide +kernel) rfl, am_in1 (i := 1) (by decide +kernel) rfl, by decide +kernel, by decide +kernel, by decide +kernel, by decide +kernel⟩
theorem am_m_118 : am_m 118 = (⟨"ThingsThrown", "enterThrowFrom", "(I)V"⟩, prog_1_method_65_code, 4, none, 0) := rfl
theorem am_mP_118 : am_mP 118 := by unfold am_mP; rw [am_m_118]; exact ⟨am_in3 (i := 187) (by decide +kernel) rfl, am_in1 (i := 1) (by decide +kernel) rfl, by decide +kernel, by decide +kernel, by decide +kernel, by decide +kernel⟩
theorem am_m_119 : am_m 119 = (⟨"ThingsThrown", "asked", "()I"⟩, prog_1_method_33_code, 1, some .int, 0) := rfl
theorem am_mP_119 : am_mP 119 := by unfold am_mP; rw [am_m_119]; exact ⟨am_in3 (i := 191) (by decide +kernel) rfl, am_in1 (i := 1) (by decide +kernel) rfl, by decide +kernel, by decide +kernel, by decide +kernel, by decide +kernel⟩
theorem am_m_120 : am_m 120 = (⟨"ThingsThrown", "upper", "()J"⟩, prog_1_method_34_code, 1, some .long, 0) := rfl
theorem am_mP_120 : am_mP 120 := by unfold am_mP; rw [am_m_120]; exact ⟨am_in3 (i := 195) (by decide +kernel) rfl, am_in1 (i := 1) (by decide +kernel) rfl, by decide +kernel, by decide +kernel, by decide +kernel, by decide +kernel⟩
theorem am_m_121 : am_m 121 = (⟨"ThingsThrown", "lower", "()J"⟩, prog_1_method_35_code, 1, some .long, 0) := rfl
theorem am_mP_121 : am_mP 121 := by unfold am_mP; rw [am_m_121]; exact ⟨am_in3 (i := 199) (by decide +kernel) rfl, am_in1 (i := 1) (by decide +kernel) rfl, by decide +kernel, by decide +kernel, by decide +kernel, by decide +kernel⟩
theorem am_m_122 : am_m 122 = (⟨"ThingsThrown", "count", "(I)I"⟩, prog_1_method_36_code, 2, some .int, 0) := rfl
theorem am_mP_122 : am_mP 122 := by unfold am_mP; rw [am_m_122]; exact ⟨am_in3 (i := 203) (by decide +kernel) rfl, am_in1 (i := 1) (by decide +kernel) rfl, by decide +kernel, by decide +kernel, by decide +kernel, by decide +kernel⟩
theorem am_m_123 : am_m 123 = (⟨"ThingsThrown$Evening", "throwsMade", "()I"⟩, prog_3_method_8_code, 3, some .int, 2) := rfl
theorem am_mP_123 : am_mP 123 := by unfold am_mP; rw [am_m_123]; exact ⟨am_in3 (i := 208) (by decide +kernel) rfl, am_in1 (i := 4) (by decide +kernel) rfl, by decide +kernel, by decide +kernel, by decide +kernel, by decide +kernel⟩
theorem am_m_124 : am_m 124 = (⟨"ThingsThrown$Troupe", "howManyOf", "(I)I"⟩, prog_8_method_11_code, 4, some .int, 6) := rfl
theorem am_mP_124 : am_mP 124 := by unfold am_mP; rw [am_m_124]; exact ⟨am_in3 (i := 212) (by decide +kernel) rfl, am_in1 (i := 3) (by decide +kernel) rfl, by decide +kernel, by decide +kernel, by decide +kernel, by decide +kernel⟩
theorem am_m_125 : am_m 125 = (⟨"ThingsThrown", "sheetsThere", "([LThingsThrown$Sheet;)I"⟩, prog_1_method_59_code, 3, some .int, 0) := rfl
theorem am_mP_125 : am_mP 125 := by unfold am_mP; rw [am_m_125]; exact ⟨am_in3 (i := 216) (by decide +kernel) rfl, am_in1 (i := 1) (by decide +kernel) rfl, by decide +kernel, by decide +kernel, by decide +kernel, by decide +kernel⟩
theorem am_m_126 : am_m 126 = (⟨"ThingsThrown", "skiesKept", "()I"⟩, prog_1_method_60_code, 3, some .int, 0) := rfl
theorem am_mP_126 : am_mP 126 := by unfold am_mP; rw [am_m_126]; exact ⟨am_in3 (i := 220) (by decide +kernel) rfl, am_in1 (i := 1) (by decide +kernel) rfl, by decide +kernel, by decide +kernel, by decide +kernel, by decide +kernel⟩
theorem am_m_127 : am_m 127 = (⟨"ThingsThrown", "finding", "()I"⟩, prog_1_method_37_code, 1, some .int, 0) := rfl
theorem am_mP_127 : am_mP 127 := by unfold am_mP; rw [am_m_127]; exact ⟨am_in3 (i := 224) (by decide +kernel) rfl, am_in1 (i := 1) (by decide +kernel) rfl, by decide +kernel, by decide +kernel, by decide +kernel, by decide +kernel⟩
theorem am_m_128 : am_m 128 = (⟨"ThingsThrown", "findings", "(I)I"⟩, prog_1_method_38_code, 2, some .int, 0) := rfl
theorem am_mP_128 : am_mP 128 := by unfold am_mP; rw [am_m_128]; exact ⟨am_in3 (i := 228) (by decide +kernel) rfl, am_in1 (i := 1) (by decide +kernel) rfl, by decide +kernel, by decide +kernel, by decide +kernel, by decide +kernel⟩
theorem am_m_129 : am_m 129 = (⟨"ThingsThrown", "digest", "()J"⟩, prog_1_method_39_code, 5, some .long, 0) := rfl
theorem am_mP_129 : am_mP 129 := by unfold am_mP; rw [am_m_129]; exact ⟨am_in3 (i := 232) (by decide +kernel) rfl, am_in1 (i := 1) (by decide +kernel) rfl, by decide +kernel, by decide +kernel, by decide +kernel, by decide +kernel⟩
theorem am_m_130 : am_m 130 = (⟨"ThingsThrown", "digestOfSheets", "(J[LThingsThrown$Sheet;)J"⟩, prog_1_method_40_code, 7, some .long, 0) := rfl
theorem am_mP_130 : am_mP 130 := by unfold am_mP; rw [am_m_130]; exact ⟨am_in3 (i := 238) (by decide +kernel) rfl, am_in1 (i := 1) (by decide +kernel) rfl, by decide +kernel, by decide +kernel, by decide +kernel, by decide +kernel⟩
theorem am_m_131 : am_m 131 = (⟨"ThingsThrownModel", "<init>", "()V"⟩, prog_10_method_1_code, 2, none, 7) := rfl
theorem am_mP_131 : am_mP 131 := by unfold am_mP; rw [am_m_131]; exact ⟨am_in4 (i := 3) (by decide +kernel) rfl, am_in1 (i := 8) (by decide +kernel) rfl, by decide +kernel, by decide +kernel, by decide +kernel, by decide +kernel⟩
theorem am_m_132 : am_m 132 = (⟨"ThingsThrownModel", "row", "(II)I"⟩, prog_10_method_9_code, 4, some .int, 7) := rfl
theorem am_mP_132 : am_mP 132 := by unfold am_mP; rw [am_m_132]; exact ⟨am_in4 (i := 61) (by decide +kernel) rfl, am_in1 (i := 8) (by decide +kernel) rfl, by decide +kernel, by decide +kernel, by decide +kernel, by decide +kernel⟩
theorem am_m_133 : am_m 133 = (⟨"ThingsThrownModel", "isRow", "(I)Z"⟩, prog_10_method_8_code, 1, some .boolean, 7) := rfl
theorem am_mP_133 : am_mP 133 := by unfold am_mP; rw [am_m_133]; exact ⟨am_in4 (i := 64) (by decide +kernel) rfl, am_in1 (i := 8) (by decide +kernel) rfl, by decide +kernel, by decide +kernel, by decide +kernel, by decide +kernel⟩
theorem am_m_134 : am_m 134 = (⟨"ThingsThrownModel", "in", "(III)Z"⟩, prog_10_method_3_code, 3, some .boolean, 7) := rfl
theorem am_mP_134 : am_mP 134 := by unfold am_mP; rw [am_m_134]; exact ⟨am_in4 (i := 67) (by decide +kernel) rfl, am_in1 (i := 8) (by decide +kernel) rfl, by decide +kernel, by decide +kernel, by decide +kernel, by decide +kernel⟩
theorem am_m_135 : am_m 135 = (⟨"ThingsThrownModel", "found", "(I)I"⟩, prog_10_method_5_code, 2, some .int, 7) := rfl
theorem am_mP_135 : am_mP 135 := by unfold am_mP; rw [am_m_135]; exact ⟨am_in4 (i := 71) (by decide +kernel) rfl, am_in1 (i := 8) (by decide +kernel) rfl, by decide +kernel, by decide +kernel, by decide +kernel, by decide +kernel⟩
theorem am_m_136 : am_m 136 = (⟨"ThingsThrownModel", "lay", "(III)I"⟩, prog_10_method_11_code, 6, some .int, 7) := rfl
theorem am_mP_136 : am_mP 136 := by unfold am_mP; rw [am_m_136]; exact ⟨am_in4 (i := 75) (by decide +kernel) rfl, am_in1 (i := 8) (by decide +kernel) rfl, by decide +kernel, by decide +kernel, by decide +kernel, by decide +kernel⟩
theorem am_m_137 : am_m 137 = (⟨"ThingsThrownModel", "wrongPlace", "(II)I"⟩, prog_10_method_10_code, 3, some .int, 7) := rfl
theorem am_mP_137 : am_mP 137 := by unfold am_mP; rw [am_m_137]; exact ⟨am_in4 (i := 79) (by decide +kernel) rfl, am_in1 (i := 8) (by decide +kernel) rfl, by decide +kernel, by decide +kernel, by decide +kernel, by decide +kernel⟩
theorem am_m_138 : am_m 138 = (⟨"ThingsThrownModel", "tell", "(I)I"⟩, prog_10_method_6_code, 2, some .int, 7) := rfl
theorem am_mP_138 : am_mP 138 := by unfold am_mP; rw [am_m_138]; exact ⟨am_in4 (i := 83) (by decide +kernel) rfl, am_in1 (i := 8) (by decide +kernel) rfl, by decide +kernel, by decide +kernel, by decide +kernel, by decide +kernel⟩
theorem am_m_139 : am_m 139 = (⟨"ThingsThrownModel", "at", "(II)I"⟩, prog_10_method_12_code, 4, some .int, 7) := rfl
theorem am_mP_139 : am_mP 139 := by unfold am_mP; rw [am_m_139]; exact ⟨am_in4 (i := 87) (by decide +kernel) rfl, am_in1 (i := 8) (by decide +kernel) rfl, by decide +kernel, by decide +kernel, by decide +kernel, by decide +kernel⟩
theorem am_m_140 : am_m 140 = (⟨"ThingsThrownModel", "tear", "(I)I"⟩, prog_10_method_13_code, 2, some .int, 7) := rfl
theorem am_mP_140 : am_mP 140 := by unfold am_mP; rw [am_m_140]; exact ⟨am_in4 (i := 91) (by decide +kernel) rfl, am_in1 (i := 8) (by decide +kernel) rfl, by decide +kernel, by decide +kernel, by decide +kernel, by decide +kernel⟩
theorem am_m_141 : am_m 141 = (⟨"ThingsThrownModel", "copy", "(IIIII)I"⟩, prog_10_method_15_code, 9, some .int, 7) := rfl
theorem am_mP_141 : am_mP 141 := by unfold am_mP; rw [am_m_141]; exact ⟨am_in4 (i := 95) (by decide +kernel) rfl, am_in1 (i := 8) (by decide +kernel) rfl, by decide +kernel, by decide +kernel, by decide +kernel, by decide +kernel⟩
theorem am_m_142 : am_m 142 = (⟨"ThingsThrownModel", "isPart", "(III)Z"⟩, prog_10_method_14_code, 4, some .boolean, 7) := rfl
theorem am_mP_142 : am_mP 142 := by unfold am_mP; rw [am_m_142]; exact ⟨am_in4 (i := 99) (by decide +kernel) rfl, am_in1 (i := 8) (by decide +kernel) rfl, by decide +kernel, by decide +kernel, by decide +kernel, by decide +kernel⟩
theorem am_m_143 : am_m 143 = (⟨"ThingsThrownModel", "mean", "(I)I"⟩, prog_10_method_16_code, 5, some .int, 7) := rfl
theorem am_mP_143 : am_mP 143 := by unfold am_mP; rw [am_m_143]; exact ⟨am_in4 (i := 103) (by decide +kernel) rfl, am_in1 (i := 8) (by decide +kernel) rfl, by decide +kernel, by decide +kernel, by decide +kernel, by decide +kernel⟩
theorem am_m_144 : am_m 144 = (⟨"ThingsThrownModel", "text", "(II)I"⟩, prog_10_method_18_code, 4, some .int, 7) := rfl
theorem am_mP_144 : am_mP 144 := by unfold am_mP; rw [am_m_144]; exact ⟨am_in4 (i := 107) (by decide +kernel) rfl, am_in1 (i := 8) (by decide +kernel) rfl, by decide +kernel, by decide +kernel, by decide +kernel, by decide +kernel⟩
theorem am_m_145 : am_m 145 = (⟨"ThingsThrownModel", "isText", "(I)Z"⟩, prog_10_method_17_code, 1, some .boolean, 7) := rfl
theorem am_mP_145 : am_mP 145 := by unfold am_mP; rw [am_m_145]; exact ⟨am_in4 (i := 110) (by decide +kernel) rfl, am_in1 (i := 8) (by decide +kernel) rfl, by decide +kernel, by decide +kernel, by decide +kernel, by decide +kernel⟩
theorem am_m_146 : am_m 146 = (⟨"ThingsThrownModel", "put", "(III)I"⟩, prog_10_method_19_code, 5, some .int, 7) := rfl
theorem am_mP_146 : am_mP 146 := by unfold am_mP; rw [am_m_146]; exact ⟨am_in4 (i := 114) (by decide +kernel) rfl, am_in1 (i := 8) (by decide +kernel) rfl, by decide +kernel, by decide +kernel, by decide +kernel, by decide +kernel⟩
theorem am_m_147 : am_m 147 = (⟨"ThingsThrownModel", "fault", "(I)I"⟩, prog_10_method_24_code, 2, some .int, 7) := rfl
theorem am_mP_147 : am_mP 147 := by unfold am_mP; rw [am_m_147]; exact ⟨am_in4 (i := 118) (by decide +kernel) rfl, am_in1 (i := 8) (by decide +kernel) rfl, by decide +kernel, by decide +kernel, by decide +kernel, by decide +kernel⟩
theorem am_m_148 : am_m 148 = (⟨"ThingsThrownModel", "readText", "(I)I"⟩, prog_10_method_23_code, 5, some .int, 7) := rfl
theorem am_mP_148 : am_mP 148 := by unfold am_mP; rw [am_m_148]; exact ⟨am_in4 (i := 122) (by decide +kernel) rfl, am_in1 (i := 8) (by decide +kernel) rfl, by decide +kernel, by decide +kernel, by decide +kernel, by decide +kernel⟩
theorem am_m_149 : am_m 149 = (⟨"ThingsThrownModel", "byteAt", "(II)I"⟩, prog_10_method_21_code, 3, some .int, 7) := rfl
theorem am_mP_149 : am_mP 149 := by unfold am_mP; rw [am_m_149]; exact ⟨am_in4 (i := 126) (by decide +kernel) rfl, am_in1 (i := 8) (by decide +kernel) rfl, by decide +kernel, by decide +kernel, by decide +kernel, by decide +kernel⟩
theorem am_m_150 : am_m 150 = (⟨"ThingsThrownModel", "kindOf", "(I)I"⟩, prog_10_method_20_code, 1, some .int, 7) := rfl
theorem am_mP_150 : am_mP 150 := by unfold am_mP; rw [am_m_150]; exact ⟨am_in4 (i := 129) (by decide +kernel) rfl, am_in1 (i := 8) (by decide +kernel) rfl, by decide +kernel, by decide +kernel, by decide +kernel, by decide +kernel⟩
theorem am_m_151 : am_m 151 = (⟨"ThingsThrownModel", "isDueRead", "(I)Z"⟩, prog_10_method_22_code, 4, some .boolean, 7) := rfl
theorem am_mP_151 : am_mP 151 := by unfold am_mP; rw [am_m_151]; exact ⟨am_in4 (i := 133) (by decide +kernel) rfl, am_in1 (i := 8) (by decide +kernel) rfl, by decide +kernel, by decide +kernel, by decide +kernel, by decide +kernel⟩
theorem am_m_152 : am_m 152 = (⟨"ThingsThrownModel", "things", "(I)I"⟩, prog_10_method_25_code, 3, some .int, 7) := rfl
theorem am_mP_152 : am_mP 152 := by unfold am_mP; rw [am_m_152]; exact ⟨am_in4 (i := 137) (by decide +kernel) rfl, am_in1 (i := 8) (by decide +kernel) rfl, by decide +kernel, by decide +kernel, by decide +kernel, by decide +kernel⟩
theorem am_m_153 : am_m 153 = (⟨"ThingsThrownModel", "thing", "(II)I"⟩, prog_10_method_30_code, 3, some .int, 7) := rfl
theorem am_mP_153 : am_mP 153 := by unfold am_mP; rw [am_m_153]; exact ⟨am_in4 (i := 141) (by decide +kernel) rfl, am_in1 (i := 8) (by decide +kernel) rfl, by decide +kernel, by decide +kernel, by decide +kernel, by decide +kernel⟩
theorem am_m_154 : am_m 154 = (⟨"ThingsThrownModel", "isThing", "(I)Z"⟩, prog_10_method_26_code, 2, some .boolean, 7) := rfl
theorem am_mP_154 : am_mP 154 := by unfold am_mP; rw [am_m_154]; exact ⟨am_in4 (i := 145) (by decide +kernel) rfl, am_in1 (i := 8) (by decide +kernel) rfl, by decide +kernel, by decide +kernel, by decide +kernel, by decide +kernel⟩
theorem am_m_155 : am_m 155 = (⟨"ThingsThrownModel", "heightsOf", "(I)I"⟩, prog_10_method_29_code, 3, some .int, 7) := rfl
theorem am_mP_155 : am_mP 155 := by unfold am_mP; rw [am_m_155]; exact ⟨am_in4 (i := 148) (by decide +kernel) rfl, am_in1 (i := 8) (by decide +kernel) rfl, by decide +kernel, by decide +kernel, by decide +kernel, by decide +kernel⟩
theorem am_m_156 : am_m 156 = (⟨"ThingsThrownModel", "landing", "(II)I"⟩, prog_10_method_28_code, 2, some .int, 7) := rfl
theorem am_mP_156 : am_mP 156 := by unfold am_mP; rw [am_m_156]; exact ⟨am_in4 (i := 151) (by decide +kernel) rfl, am_in1 (i := 8) (by decide +kernel) rfl, by decide +kernel, by decide +kernel, by decide +kernel, by decide +kernel⟩
theorem am_m_157 : am_m 157 = (⟨"ThingsThrownModel", "mark", "(II)I"⟩, prog_10_method_34_code, 4, some .int, 7) := rfl
theorem am_mP_157 : am_mP 157 := by unfold am_mP; rw [am_m_157]; exact ⟨am_in4 (i := 155) (by decide +kernel) rfl, am_in1 (i := 8) (by decide +kernel) rfl, by decide +kernel, by decide +kernel, by decide +kernel, by decide +kernel⟩
theorem am_m_158 : am_m 158 = (⟨"ThingsThrownModel", "unlikeBall", "(II)I"⟩, prog_10_method_31_code, 5, some .int, 7) := rfl
theorem am_mP_158 : am_mP 158 := by unfold am_mP; rw [am_m_158]; exact ⟨am_in4 (i := 158) (by decide +kernel) rfl, am_in1 (i := 8) (by decide +kernel) rfl, by decide +kernel, by decide +kernel, by decide +kernel, by decide +kernel⟩
theorem am_m_159 : am_m 159 = (⟨"ThingsThrownModel", "torchesAhead", "(I)I"⟩, prog_10_method_32_code, 4, some .int, 7) := rfl
theorem am_mP_159 : am_mP 159 := by unfold am_mP; rw [am_m_159]; exact ⟨am_in4 (i := 162) (by decide +kernel) rfl, am_in1 (i := 8) (by decide +kernel) rfl, by decide +kernel, by decide +kernel, by decide +kernel, by decide +kernel⟩
theorem am_m_160 : am_m 160 = (⟨"ThingsThrownModel", "thingsBehind", "(I)I"⟩, prog_10_method_33_code, 4, some .int, 7) := rfl
theorem am_mP_160 : am_mP 160 := by unfold am_mP; rw [am_m_160]; exact ⟨am_in4 (i := 166) (by decide +kernel) rfl, am_in1 (i := 8) (by decide +kernel) rfl, by decide +kernel, by decide +kernel, by decide +kernel, by decide +kernel⟩
theorem am_m_161 : am_m 161 = (⟨"ThingsThrownModel", "toss", "(I)I"⟩, prog_10_method_45_code, 2, some .int, 7) := rfl
theorem am_mP_161 : am_mP 161 := by unfold am_mP; rw [am_m_161]; exact ⟨am_in4 (i := 170) (by decide +kernel) rfl, am_in1 (i := 8) (by decide +kernel) rfl, by decide +kernel, by decide +kernel, by decide +kernel, by decide +kernel⟩
theorem am_m_162 : am_m 162 = (⟨"ThingsThrownModel", "isHeight", "(I)Z"⟩, prog_10_method_27_code, 1, some .boolean, 7) := rfl
theorem am_mP_162 : am_mP 162 := by unfold am_mP; rw [am_m_162]; exact ⟨am_in4 (i := 173) (by decide +kernel) rfl, am_in1 (i := 8) (by decide +kernel) rfl, by decide +kernel, by decide +kernel, by decide +kernel, by decide +kernel⟩
theorem am_m_163 : am_m 163 = (⟨"ThingsThrownModel", "mayAt", "(II)Z"⟩, prog_10_method_37_code, 5, some .boolean, 7) := rfl
theorem am_mP_163 : am_mP 163 := by unfold am_mP; rw [am_m_163]; exact ⟨am_in4 (i := 177) (by decide +kernel) rfl, am_in1 (i := 8) (by decide +kernel) rfl, by decide +kernel, by decide +kernel, by decide +kernel, by decide +kernel⟩
theorem am_m_164 : am_m 164 = (⟨"ThingsThrownModel", "dueAt", "(I)I"⟩, prog_10_method_36_code, 3, some .int, 7) := rfl
theorem am_mP_164 : am_mP 164 := by unfold am_mP; rw [am_m_164]; exact ⟨am_in4 (i := 181) (by decide +kernel) rfl, am_in1 (i := 8) (by decide +kernel) rfl, by decide +kernel, by decide +kernel, by decide +kernel, by decide +kernel⟩
theorem am_m_165 : am_m 165 = (⟨"ThingsThrownModel", "skyAt", "(I)I"⟩, prog_10_method_35_code, 4, some .int, 7) := rfl
theorem am_mP_165 : am_mP 165 := by unfold am_mP; rw [am_m_165]; exact ⟨am_in4 (i := 185) (by decide +kernel) rfl, am_in1 (i := 8) (by decide +kernel) rfl, by decide +kernel, by decide +kernel, by decide +kernel, by decide +kernel⟩
theorem am_m_166 : am_m 166 = (⟨"ThingsThrownModel", "has", "(II)Z"⟩, prog_10_method_4_code, 2, some .boolean, 7) := rfl
theorem am_mP_166 : am_mP 166 := by unfold am_mP; rw [am_m_166]; exact ⟨am_in4 (i := 188) (by decide +kernel) rfl, am_in1 (i := 8) (by decide +kernel) rfl, by decide +kernel, by decide +kernel, by decide +kernel, by decide +kernel⟩
theorem am_m_167 : am_m 167 = (⟨"ThingsThrownModel", "remember", "()V"⟩, prog_10_method_44_code, 1, none, 7) := rfl
theorem am_mP_167 : am_mP 167 := by unfold am_mP; rw [am_m_167]; exact ⟨am_in4 (i := 192) (by decide +kernel) rfl, am_in1 (i := 8) (by decide +kernel) rfl, by decide +kernel, by decide +kernel, by decide +kernel, by decide +kernel⟩
theorem am_m_168 : am_m 168 = (⟨"ThingsThrownModel", "copyRow", "(III)V"⟩, prog_10_method_7_code, 5, none, 7) := rfl
theorem am_mP_168 : am_mP 168 := by unfold am_mP; rw [am_m_168]; exact ⟨am_in4 (i := 196) (by decide +kernel) rfl, am_in1 (i := 8) (by decide +kernel) rfl, by decide +kernel, by decide +kernel, by decide +kernel, by decide +kernel⟩
theorem am_m_169 : am_m 169 = (⟨"ThingsThrownModel", "tossAt", "(II)V"⟩, prog_10_method_40_code, 4, none, 7) := rfl
theorem am_mP_169 : am_mP 169 := by unfold am_mP; rw [am_m_169]; exact ⟨am_in4 (i := 200) (by decide +kernel) rfl, am_in1 (i := 8) (by decide +kernel) rfl, by decide +kernel, by decide +kernel, by decide +kernel, by decide +kernel⟩
theorem am_m_170 : am_m 170 = (⟨"ThingsThrownModel", "later", "(I)V"⟩, prog_10_method_39_code, 3, none, 7) := rfl
theorem am_mP_170 : am_mP 170 := by unfold am_mP; rw [am_m_170]; exact ⟨am_in4 (i := 204) (by decide +kernel) rfl, am_in1 (i := 8) (by decide +kernel) rfl, by decide +kernel, by decide +kernel, by decide +kernel, by decide +kernel⟩
theorem am_m_171 : am_m 171 = (⟨"ThingsThrownModel", "rest", "()I"⟩, prog_10_method_46_code, 1, some .int, 7) := rfl
theorem am_mP_171 : am_mP 171 := by unfold am_mP; rw [am_m_171]; exact ⟨am_in4 (i := 208) (by decide +kernel) rfl, am_in1 (i := 8) (by decide +kernel) rfl, by decide +kernel, by decide +kernel, by decide +kernel, by decide +kernel⟩
theorem am_m_172 : am_m 172 = (⟨"ThingsThrownModel", "exchange", "(II)I"⟩, prog_10_method_48_code, 3, some .int, 7) := rfl
theorem am_mP_172 : am_mP 172 := by unfold am_mP; rw [am_m_172]; exact ⟨am_in4 (i := 212) (by decide +kernel) rfl, am_in1 (i := 8) (by decide +kernel) rfl, by decide +kernel, by decide +kernel, by decide +kernel, by decide +kernel⟩
theorem am_m_173 : am_m 173 = (⟨"ThingsThrownModel", "swap", "(II)V"⟩, prog_10_method_47_code, 4, none, 7) := rfl
theorem am_mP_173 : am_mP 173 := by unfold am_mP; rw [am_m_173]; exact ⟨am_in4 (i := 216) (by decide +kernel) rfl, am_in1 (i := 8) (by decide +kernel) rfl, by decide +kernel, by decide +kernel, by decide +kernel, by decide +kernel⟩
theorem am_m_174 : am_m 174 = (⟨"ThingsThrownModel", "undo", "(I)I"⟩, prog_10_method_49_code, 3, some .int, 7) := rfl
theorem am_mP_174 : am_mP 174 := by unfold am_mP; rw [am_m_174]; exact ⟨am_in4 (i := 220) (by decide +kernel) rfl, am_in1 (i := 8) (by decide +kernel) rfl, by decide +kernel, by decide +kernel, by decide +kernel, by decide +kernel⟩
theorem am_m_175 : am_m 175 = (⟨"ThingsThrownModel", "keep", "(I)I"⟩, prog_10_method_50_code, 2, some .int, 7) := rfl
theorem am_mP_175 : am_mP 175 := by unfold am_mP; rw [am_m_175]; exact ⟨am_in4 (i := 224) (by decide +kernel) rfl, am_in1 (i := 8) (by decide +kernel) rfl, by decide +kernel, by decide +kernel, by decide +kernel, by decide +kernel⟩
theorem am_m_176 : am_m 176 = (⟨"ThingsThrownModel", "on", "(I)I"⟩, prog_10_method_51_code, 2, some .int, 7) := rfl
theorem am_mP_176 : am_mP 176 := by unfold am_mP; rw [am_m_176]; exact ⟨am_in4 (i := 228) (by decide +kernel) rfl, am_in1 (i := 8) (by decide +kernel) rfl, by decide +kernel, by decide +kernel, by decide +kernel, by decide +kernel⟩
theorem am_m_177 : am_m 177 = (⟨"ThingsThrownModel", "lands", "(II)I"⟩, prog_10_method_52_code, 3, some .int, 7) := rfl
theorem am_mP_177 : am_mP 177 := by unfold am_mP; rw [am_m_177]; exact ⟨am_in4 (i := 232) (by decide +kernel) rfl, am_in1 (i := 8) (by decide +kernel) rfl, by decide +kernel, by decide +kernel, by decide +kernel, by decide +kernel⟩
theorem am_m_178 : am_m 178 = (⟨"ThingsThrownModel", "may", "()I"⟩, prog_10_method_53_code, 1, some .int, 7) := rfl
theorem am_mP_178 : am_mP 178 := by unfold am_mP; rw [am_m_178]; exact ⟨am_in4 (i := 236) (by decide +kernel) rfl, am_in1 (i := 8) (by decide +kernel) rfl, by decide +kernel, by decide +kernel, by decide +kernel, by decide +kernel⟩
theorem am_m_179 : am_m 179 = (⟨"ThingsThrownModel", "heightsAt", "(I)I"⟩, prog_10_method_38_code, 4, some .int, 7) := rfl
theorem am_mP_179 : am_mP 179 := by unfold am_mP; rw [am_m_179]; exact ⟨am_in5 (i := 0) (by decide +kernel) rfl, am_in1 (i := 8) (by decide +kernel) rfl, by decide +kernel, by decide +kernel, by decide +kernel, by decide +kernel⟩
theorem am_m_180 : am_m 180 = (⟨"ThingsThrownModel", "run", "(I)I"⟩, prog_10_method_55_code, 6, some .int, 7) := rfl
theorem am_mP_180 : am_mP 180 := by unfold am_mP; rw [am_m_180]; exact ⟨am_in5 (i := 4) (by decide +kernel) rfl, am_in1 (i := 8) (by decide +kernel) rfl, by decide +kernel, by decide +kernel, by decide +kernel, by decide +kernel⟩
theorem am_m_181 : am_m 181 = (⟨"ThingsThrownModel", "wrongHeights", "(III)I"⟩, prog_10_method_54_code, 5, some .int, 7) := rfl
theorem am_mP_181 : am_mP 181 := by unfold am_mP; rw [am_m_181]; exact ⟨am_in5 (i := 8) (by decide +kernel) rfl, am_in1 (i := 8) (by decide +kernel) rfl, by decide +kernel, by decide +kernel, by decide +kernel, by decide +kernel⟩
theorem am_m_182 : am_m 182 = (⟨"ThingsThrownModel", "beginTry", "()V"⟩, prog_10_method_43_code, 1, none, 7) := rfl
theorem am_mP_182 : am_mP 182 := by unfold am_mP; rw [am_m_182]; exact ⟨am_in5 (i := 12) (by decide +kernel) rfl, am_in1 (i := 8) (by decide +kernel) rfl, by decide +kernel, by decide +kernel, by decide +kernel, by decide +kernel⟩
theorem am_m_183 : am_m 183 = (⟨"ThingsThrownModel", "restsAt", "(I)V"⟩, prog_10_method_41_code, 2, none, 7) := rfl
theorem am_mP_183 : am_mP 183 := by unfold am_mP; rw [am_m_183]; exact ⟨am_in5 (i := 16) (by decide +kernel) rfl, am_in1 (i := 8) (by decide +kernel) rfl, by decide +kernel, by decide +kernel, by decide +kernel, by decide +kernel⟩
theorem am_m_184 : am_m 184 = (⟨"ThingsThrownModel", "rounds", "(I)I"⟩, prog_10_method_57_code, 6, some .int, 7) := rfl
theorem am_mP_184 : am_mP 184 := by unfold am_mP; rw [am_m_184]; exact ⟨am_in5 (i := 20) (by decide +kernel) rfl, am_in1 (i := 8) (by decide +kernel) rfl, by decide +kernel, by decide +kernel, by decide +kernel, by decide +kernel⟩
theorem am_m_185 : am_m 185 = (⟨"ThingsThrownModel", "isAsNow", "()Z"⟩, prog_10_method_56_code, 3, some .boolean, 7) := rfl
theorem am_mP_185 : am_mP 185 := by unfold am_mP; rw [am_m_185]; exact ⟨am_in5 (i := 24) (by decide +kernel) rfl, am_in1 (i := 8) (by decide +kernel) rfl, by decide +kernel, by decide +kernel, by decide +kernel, by decide +kernel⟩
theorem am_m_186 : am_m 186 = (⟨"ThingsThrownModel", "fewest", "(II)I"⟩, prog_10_method_63_code, 6, some .int, 7) := rfl
theorem am_mP_186 : am_mP 186 := by unfold am_mP; rw [am_m_186]; exact ⟨am_in5 (i := 28) (by decide +kernel) rfl, am_in1 (i := 8) (by decide +kernel) rfl, by decide +kernel, by decide +kernel, by decide +kernel, by decide +kernel⟩
theorem am_m_187 : am_m 187 = (⟨"ThingsThrownModel", "isSky", "(I)Z"⟩, prog_10_method_62_code, 1, some .boolean, 7) := rfl
theorem am_mP_187 : am_mP 187 := by unfold am_mP; rw [am_m_187]; exact ⟨am_in5 (i := 31) (by decide +kernel) rfl, am_in1 (i := 8) (by decide +kernel) rfl, by decide +kernel, by decide +kernel, by decide +kernel, by decide +kernel⟩
theorem am_m_188 : am_m 188 = (⟨"ThingsThrownModel", "power", "(II)I"⟩, prog_10_method_58_code, 4, some .int, 7) := rfl
theorem am_mP_188 : am_mP 188 := by unfold am_mP; rw [am_m_188]; exact ⟨am_in5 (i := 35) (by decide +kernel) rfl, am_in1 (i := 8) (by decide +kernel) rfl, by decide +kernel, by decide +kernel, by decide +kernel, by decide +kernel⟩
theorem am_m_189 : am_m 189 = (⟨"ThingsThrownModel", "canThrow", "(II)Z"⟩, prog_10_method_60_code, 5, some .boolean, 7) := rfl
theorem am_mP_189 : am_mP 189 := by unfold am_mP; rw [am_m_189]; exact ⟨am_in5 (i := 39) (by decide +kernel) rfl, am_in1 (i := 8) (by decide +kernel) rfl, by decide +kernel, by decide +kernel, by decide +kernel, by decide +kernel⟩
theorem am_m_190 : am_m 190 = (⟨"ThingsThrownModel", "figure", "(III)I"⟩, prog_10_method_59_code, 3, some .int, 7) := rfl
theorem am_mP_190 : am_mP 190 := by unfold am_mP; rw [am_m_190]; exact ⟨am_in5 (i := 42) (by decide +kernel) rfl, am_in1 (i := 8) (by decide +kernel) rfl, by decide +kernel, by decide +kernel, by decide +kernel, by decide +kernel⟩
theorem am_m_191 : am_m 191 = (⟨"ThingsThrownModel", "comesTo", "(I)Z"⟩, prog_10_method_61_code, 2, some .boolean, 7) := rfl
theorem am_mP_191 : am_mP 191 := by unfold am_mP; rw [am_m_191]; exact ⟨am_in5 (i := 46) (by decide +kernel) rfl, am_in1 (i := 8) (by decide +kernel) rfl, by decide +kernel, by decide +kernel, by decide +kernel, by decide +kernel⟩
theorem am_m_192 : am_m 192 = (⟨"ThingsThrownModel", "ways", "(I)I"⟩, prog_10_method_64_code, 5, some .int, 7) := rfl
theorem am_mP_192 : am_mP 192 := by unfold am_mP; rw [am_m_192]; exact ⟨am_in5 (i := 50) (by decide +kernel) rfl, am_in1 (i := 8) (by decide +kernel) rfl, by decide +kernel, by decide +kernel, by decide +kernel, by decide +kernel⟩
theorem am_m_193 : am_m 193 = (⟨"ThingsThrownModel", "height", "(I)I"⟩, prog_10_method_65_code, 4, some .int, 7) := rfl
theorem am_mP_193 : am_mP 193 := by unfold am_mP; rw [am_m_193]; exact ⟨am_in5 (i := 54) (by decide +kernel) rfl, am_in1 (i := 8) (by decide +kernel) rfl, by decide +kernel, by decide +kernel, by decide +kernel, by decide +kernel⟩
theorem am_m_194 : am_m 194 = (⟨"ThingsThrownModel", "kinds", "(II)I"⟩, prog_10_method_68_code, 4, some .int, 7) := rfl
theorem am_mP_194 : am_mP 194 := by unfold am_mP; rw [am_m_194]; exact ⟨am_in5 (i := 58) (by decide +kernel) rfl, am_in1 (i := 8) (by decide +kernel) rfl, by decide +kernel, by decide +kernel, by decide +kernel, by decide +kernel⟩
theorem am_m_195 : am_m 195 = (⟨"ThingsThrownModel", "wrongPairs", "(II)I"⟩, prog_10_method_66_code, 4, some .int, 7) := rfl
theorem am_mP_195 : am_mP 195 := by unfold am_mP; rw [am_m_195]; exact ⟨am_in5 (i := 62) (by decide +kernel) rfl, am_in1 (i := 8) (by decide +kernel) rfl, by decide +kernel, by decide +kernel, by decide +kernel, by decide +kernel⟩
theorem am_m_196 : am_m 196 = (⟨"ThingsThrownModel", "kindsBy", "(I)I"⟩, prog_10_method_67_code, 6, some .int, 7) := rfl
theorem am_mP_196 : am_mP 196 := by unfold am_mP; rw [am_m_196]; exact ⟨am_in5 (i := 66) (by decide +kernel) rfl, am_in1 (i := 8) (by decide +kernel) rfl, by decide +kernel, by decide +kernel, by decide +kernel, by decide +kernel⟩
theorem am_m_197 : am_m 197 = (⟨"ThingsThrownModel", "next", "(II)I"⟩, prog_10_method_70_code, 9, some .int, 7) := rfl
theorem am_mP_197 : am_mP 197 := by unfold am_mP; rw [am_m_197]; exact ⟨am_in5 (i := 70) (by decide +kernel) rfl, am_in1 (i := 8) (by decide +kernel) rfl, by decide +kernel, by decide +kernel, by decide +kernel, by decide +kernel⟩
theorem am_m_198 : am_m 198 = (⟨"ThingsThrownModel", "greatestPart", "(II)I"⟩, prog_10_method_69_code, 6, some .int, 7) := rfl
theorem am_mP_198 : am_mP 198 := by unfold am_mP; rw [am_m_198]; exact ⟨am_in5 (i := 73) (by decide +kernel) rfl, am_in1 (i := 8) (by decide +kernel) rfl, by decide +kernel, by decide +kernel, by decide +kernel, by decide +kernel⟩
theorem am_m_199 : am_m 199 = (⟨"ThingsThrownModel", "duel", "(I)I"⟩, prog_10_method_74_code, 4, some .int, 7) := rfl
theorem am_mP_199 : am_mP 199 := by unfold am_mP; rw [am_m_199]; exact ⟨am_in5 (i := 77) (by decide +kernel) rfl, am_in1 (i := 8) (by decide +kernel) rfl, by decide +kernel, by decide +kernel, by decide +kernel, by decide +kernel⟩
theorem am_m_200 : am_m 200 = (⟨"ThingsThrownModel", "base", "(I)I"⟩, prog_10_method_71_code, 1, some .int, 7) := rfl
theorem am_mP_200 : am_mP 200 := by unfold am_mP; rw [am_m_200]; exact ⟨am_in5 (i := 80) (by decide +kernel) rfl, am_in1 (i := 8) (by decide +kernel) rfl, by decide +kernel, by decide +kernel, by decide +kernel, by decide +kernel⟩
theorem am_m_201 : am_m 201 = (⟨"ThingsThrownModel", "worthOf", "(III)I"⟩, prog_10_method_73_code, 4, some .int, 7) := rfl
theorem am_mP_201 : am_mP 201 := by unfold am_mP; rw [am_m_201]; exact ⟨am_in5 (i := 84) (by decide +kernel) rfl, am_in1 (i := 8) (by decide +kernel) rfl, by decide +kernel, by decide +kernel, by decide +kernel, by decide +kernel⟩
theorem am_m_202 : am_m 202 = (⟨"ThingsThrownModel", "sumAt", "(I)I"⟩, prog_10_method_42_code, 4, some .int, 7) := rfl
theorem am_mP_202 : am_mP 202 := by unfold am_mP; rw [am_m_202]; exact ⟨am_in5 (i := 89) (by decide +kernel) rfl, am_in1 (i := 8) (by decide +kernel) rfl, by decide +kernel, by decide +kernel, by decide +kernel, by decide +kernel⟩
theorem am_m_203 : am_m 203 = (⟨"ThingsThrownModel", "bestOf", "(II)I"⟩, prog_10_method_72_code, 7, some .int, 7) := rfl
theorem am_mP_203 : am_mP 203 := by unfold am_mP; rw [am_m_203]; exact ⟨am_in5 (i := 93) (by decide +kernel) rfl, am_in1 (i := 8) (by decide +kernel) rfl, by decide +kernel, by decide +kernel, by decide +kernel, by decide +kernel⟩
theorem am_m_204 : am_m 204 = (⟨"ThingsThrownModel", "odds", "(II)I"⟩, prog_10_method_80_code, 3, some .int, 7) := rfl
theorem am_mP_204 : am_mP 204 := by unfold am_mP; rw [am_m_204]; exact ⟨am_in5 (i := 97) (by decide +kernel) rfl, am_in1 (i := 8) (by decide +kernel) rfl, by decide +kernel, by decide +kernel, by decide +kernel, by decide +kernel⟩
theorem am_m_205 : am_m 205 = (⟨"ThingsThrownModel", "chances", "(IIZ)I"⟩, prog_10_method_79_code, 11, some .int, 7) := rfl
theorem am_mP_205 : am_mP 205 := by unfold am_mP; rw [am_m_205]; exact ⟨am_in5 (i := 101) (by decide +kernel) rfl, am_in1 (i := 8) (by decide +kernel) rfl, by decide +kernel, by decide +kernel, by decide +kernel, by decide +kernel⟩
theorem am_m_206 : am_m 206 = (⟨"ThingsThrownModel", "wrongChance", "(II)I"⟩, prog_10_method_75_code, 3, some .int, 7) := rfl
theorem am_mP_206 : am_mP 206 := by unfold am_mP; rw [am_m_206]; exact ⟨am_in5 (i := 105) (by decide +kernel) rfl, am_in1 (i := 8) (by decide +kernel) rfl, by decide +kernel, by decide +kernel, by decide +kernel, by decide +kernel⟩
theorem am_m_207 : am_m 207 = (⟨"ThingsThrownModel", "madeWith", "(II)I"⟩, prog_10_method_76_code, 5, some .int, 7) := rfl
theorem am_mP_207 : am_mP 207 := by unfold am_mP; rw [am_m_207]; exact ⟨am_in5 (i := 110) (by decide +kernel) rfl, am_in1 (i := 8) (by decide +kernel) rfl, by decide +kernel, by decide +kernel, by decide +kernel, by decide +kernel⟩
theorem am_m_208 : am_m 208 = (⟨"ThingsThrownModel", "chanceOf", "(III)J"⟩, prog_10_method_77_code, 7, some .long, 7) := rfl
theorem am_mP_208 : am_mP 208 := by unfold am_mP; rw [am_m_208]; exact ⟨am_in5 (i := 114) (by decide +kernel) rfl, am_in1 (i := 8) (by decide +kernel) rfl, by decide +kernel, by decide +kernel, by decide +kernel, by decide +kernel⟩
theorem am_m_209 : am_m 209 = (⟨"ThingsThrownModel", "tellPart", "(JJ)V"⟩, prog_10_method_78_code, 11, none, 7) := rfl
theorem am_mP_209 : am_mP 209 := by unfold am_mP; rw [am_m_209]; exact ⟨am_in5 (i := 118) (by decide +kernel) rfl, am_in1 (i := 8) (by decide +kernel) rfl, by decide +kernel, by decide +kernel, by decide +kernel, by decide +kernel⟩
theorem am_m_210 : am_m 210 = (⟨"ThingsThrownModel", "mid", "(II)I"⟩, prog_10_method_81_code, 3, some .int, 7) := rfl
theorem am_mP_210 : am_mP 210 := by unfold am_mP; rw [am_m_210]; exact ⟨am_in5 (i := 122) (by decide +kernel) rfl, am_in1 (i := 8) (by decide +kernel) rfl, by decide +kernel, by decide +kernel, by decide +kernel, by decide +kernel⟩
theorem am_m_211 : am_m 211 = (⟨"ThingsThrownModel", "lots", "(II)I"⟩, prog_10_method_83_code, 6, some .int, 7) := rfl
theorem am_mP_211 : am_mP 211 := by unfold am_mP; rw [am_m_211]; exact ⟨am_in5 (i := 126) (by decide +kernel) rfl, am_in1 (i := 8) (by decide +kernel) rfl, by decide +kernel, by decide +kernel, by decide +kernel, by decide +kernel⟩
theorem am_m_212 : am_m 212 = (⟨"ThingsThrownModel", "doByLot", "(I)V"⟩, prog_10_method_82_code, 5, none, 7) := rfl
theorem am_mP_212 : am_mP 212 := by unfold am_mP; rw [am_m_212]; exact ⟨am_in5 (i := 133) (by decide +kernel) rfl, am_in1 (i := 8) (by decide +kernel) rfl, by decide +kernel, by decide +kernel, by decide +kernel, by decide +kernel⟩
theorem am_m_213 : am_m 213 = (⟨"ThingsThrownModel", "asked", "()I"⟩, prog_10_method_84_code, 1, some .int, 7) := rfl
theorem am_mP_213 : am_mP 213 := by unfold am_mP; rw [am_m_213]; exact ⟨am_in5 (i := 137) (by decide +kernel) rfl, am_in1 (i := 8) (by decide +kernel) rfl, by decide +kernel, by decide +kernel, by decide +kernel, by decide +kernel⟩
theorem am_m_214 : am_m 214 = (⟨"ThingsThrownModel", "upper", "()J"⟩, prog_10_method_85_code, 1, some .long, 7) := rfl
theorem am_mP_214 : am_mP 214 := by unfold am_mP; rw [am_m_214]; exact ⟨am_in5 (i := 141) (by decide +kernel) rfl, am_in1 (i := 8) (by decide +kernel) rfl, by decide +kernel, by decide +kernel, by decide +kernel, by decide +kernel⟩
theorem am_m_215 : am_m 215 = (⟨"ThingsThrownModel", "lower", "()J"⟩, prog_10_method_86_code, 1, some .long, 7) := rfl
theorem am_mP_215 : am_mP 215 := by unfold am_mP; rw [am_m_215]; exact ⟨am_in5 (i := 145) (by decide +kernel) rfl, am_in1 (i := 8) (by decide +kernel) rfl, by decide +kernel, by decide +kernel, by decide +kernel, by decide +kernel⟩
theorem am_m_216 : am_m 216 = (⟨"ThingsThrownModel", "count", "(I)I"⟩, prog_10_method_90_code, 2, some .int, 7) := rfl
theorem am_mP_216 : am_mP 216 := by unfold am_mP; rw [am_m_216]; exact ⟨am_in5 (i := 149) (by decide +kernel) rfl, am_in1 (i := 8) (by decide +kernel) rfl, by decide +kernel, by decide +kernel, by decide +kernel, by decide +kernel⟩
theorem am_m_217 : am_m 217 = (⟨"ThingsThrownModel", "throwsMade", "()I"⟩, prog_10_method_87_code, 3, some .int, 7) := rfl
theorem am_mP_217 : am_mP 217 := by unfold am_mP; rw [am_m_217]; exact ⟨am_in5 (i := 153) (by decide +kernel) rfl, am_in1 (i := 8) (by decide +kernel) rfl, by decide +kernel, by decide +kernel, by decide +kernel, by decide +kernel⟩
theorem am_m_218 : am_m 218 = (⟨"ThingsThrownModel", "ofKinds", "(II)I"⟩, prog_10_method_88_code, 5, some .int, 7) := rfl
theorem am_mP_218 : am_mP 218 := by unfold am_mP; rw [am_m_218]; exact ⟨am_in5 (i := 157) (by decide +kernel) rfl, am_in1 (i := 8) (by decide +kernel) rfl, by decide +kernel, by decide +kernel, by decide +kernel, by decide +kernel⟩
theorem am_m_219 : am_m 219 = (⟨"ThingsThrownModel", "thereAre", "([II)I"⟩, prog_10_method_89_code, 4, some .int, 7) := rfl
theorem am_mP_219 : am_mP 219 := by unfold am_mP; rw [am_m_219]; exact ⟨am_in5 (i := 160) (by decide +kernel) rfl, am_in1 (i := 8) (by decide +kernel) rfl, by decide +kernel, by decide +kernel, by decide +kernel, by decide +kernel⟩
theorem am_m_220 : am_m 220 = (⟨"ThingsThrownModel", "finding", "()I"⟩, prog_10_method_91_code, 1, some .int, 7) := rfl
theorem am_mP_220 : am_mP 220 := by unfold am_mP; rw [am_m_220]; exact ⟨am_in5 (i := 164) (by decide +kernel) rfl, am_in1 (i := 8) (by decide +kernel) rfl, by decide +kernel, by decide +kernel, by decide +kernel, by decide +kernel⟩
theorem am_m_221 : am_m 221 = (⟨"ThingsThrownModel", "findings", "(I)I"⟩, prog_10_method_92_code, 2, some .int, 7) := rfl
theorem am_mP_221 : am_mP 221 := by unfold am_mP; rw [am_m_221]; exact ⟨am_in5 (i := 168) (by decide +kernel) rfl, am_in1 (i := 8) (by decide +kernel) rfl, by decide +kernel, by decide +kernel, by decide +kernel, by decide +kernel⟩
theorem am_m_222 : am_m 222 = (⟨"ThingsThrownModel", "digest", "()J"⟩, prog_10_method_93_code, 5, some .long, 7) := rfl
theorem am_mP_222 : am_mP 222 := by unfold am_mP; rw [am_m_222]; exact ⟨am_in5 (i := 172) (by decide +kernel) rfl, am_in1 (i := 8) (by decide +kernel) rfl, by decide +kernel, by decide +kernel, by decide +kernel, by decide +kernel⟩
def am_flP (q : Nat × Nat × Nat × Nat) : Prop := match am_cl[q.2.2.1]? with
  | some (_, T, N) => q.2.2.2 < N ∧ Cond.fieldLink (am_own q.1) q.2.1 (T q.2.2.2).1 (T q.2.2.2).2.1 (T q.2.2.2).2.2.1 ∈ am_TB
  | none => False
theorem am_flr_0_11 : am_flP (0, 11, 0, 0) := ⟨by decide, am_in1 (i := 149) (by decide +kernel) rfl⟩
theorem am_flr_0_15 : am_flP (0, 15, 0, 1) := ⟨by decide, am_in1 (i := 150) (by decide +kernel) rfl⟩
theorem am_flr_0_21 : am_flP (0, 21, 0, 2) := ⟨by decide, am_in1 (i := 151) (by decide +kernel) rfl⟩
theorem am_flr_0_28 : am_flP (0, 28, 0, 3) := ⟨by decide, am_in1 (i := 152) (by decide +kernel) rfl⟩
theorem am_flr_0_35 : am_flP (0, 35, 0, 4) := ⟨by decide, am_in1 (i := 153) (by decide +kernel) rfl⟩
theorem am_flr_0_39 : am_flP (0, 39, 0, 5) := ⟨by decide, am_in1 (i := 154) (by decide +kernel) rfl⟩
theorem am_flr_0_48 : am_flP (0, 48, 0, 6) := ⟨by decide, am_in1 (i := 155) (by decide +kernel) rfl⟩
theorem am_flr_0_55 : am_flP (0, 55, 0, 7) := ⟨by decide, am_in1 (i := 156) (by decide +kernel) rfl⟩
theorem am_flr_0_59 : am_flP (0, 59, 0, 8) := ⟨by decide, am_in1 (i := 157) (by decide +kernel) rfl⟩
theorem am_flr_0_63 : am_flP (0, 63, 0, 9) := ⟨by decide, am_in1 (i := 158) (by decide +kernel) rfl⟩
theorem am_flr_0_67 : am_flP (0, 67, 0, 10) := ⟨by decide, am_in1 (i := 159) (by decide +kernel) rfl⟩
theorem am_flr_0_70 : am_flP (0, 70, 0, 11) := ⟨by decide, am_in1 (i := 160) (by decide +kernel) rfl⟩
theorem am_flr_0_74 : am_flP (0, 74, 0, 12) := ⟨by decide, am_in1 (i := 161) (by decide +kernel) rfl⟩
theorem am_flr_0_99 : am_flP (0, 99, 4, 0) := ⟨by decide, am_in1 (i := 131) (by decide +kernel) rfl⟩
theorem am_flr_0_108 : am_flP (0, 108, 4, 1) := ⟨by decide, am_in1 (i := 138) (by decide +kernel) rfl⟩
theorem am_flr_0_138 : am_flP (0, 138, 5, 0) := ⟨by decide, am_in1 (i := 48) (by decide +kernel) rfl⟩
theorem am_flr_0_142 : am_flP (0, 142, 5, 1) := ⟨by decide, am_in1 (i := 50) (by decide +kernel) rfl⟩
theorem am_flr_0_148 : am_flP (0, 148, 6, 0) := ⟨by decide, am_in1 (i := 38) (by decide +kernel) rfl⟩
theorem am_flr_0_157 : am_flP (0, 157, 6, 1) := ⟨by decide, am_in1 (i := 40) (by decide +kernel) rfl⟩
theorem am_flr_0_166 : am_flP (0, 166, 2, 0) := ⟨by decide, am_in1 (i := 65) (by decide +kernel) rfl⟩
theorem am_flr_0_204 : am_flP (0, 204, 2, 2) := ⟨by decide, am_in1 (i := 69) (by decide +kernel) rfl⟩
theorem am_flr_0_233 : am_flP (0, 233, 3, 1) := ⟨by decide, am_in1 (i := 99) (by decide +kernel) rfl⟩
theorem am_flr_0_248 : am_flP (0, 248, 3, 2) := ⟨by decide, am_in1 (i := 101) (by decide +kernel) rfl⟩
theorem am_flr_0_259 : am_flP (0, 259, 3, 3) := ⟨by decide, am_in1 (i := 103) (by decide +kernel) rfl⟩
theorem am_flr_0_302 : am_flP (0, 302, 2, 1) := ⟨by decide, am_in1 (i := 67) (by decide +kernel) rfl⟩
theorem am_flr_0_339 : am_flP (0, 339, 2, 3) := ⟨by decide, am_in1 (i := 71) (by decide +kernel) rfl⟩
theorem am_flr_1_9 : am_flP (1, 9, 1, 0) := ⟨by decide, am_in1 (i := 119) (by decide +kernel) rfl⟩
theorem am_flr_1_21 : am_flP (1, 21, 4, 1) := ⟨by decide, am_in1 (i := 137) (by decide +kernel) rfl⟩
theorem am_flr_1_33 : am_flP (1, 33, 4, 0) := ⟨by decide, am_in1 (i := 132) (by decide +kernel) rfl⟩
theorem am_flr_2_9 : am_flP (2, 9, 2, 0) := ⟨by decide, am_in1 (i := 64) (by decide +kernel) rfl⟩
theorem am_flr_2_15 : am_flP (2, 15, 2, 1) := ⟨by decide, am_in1 (i := 66) (by decide +kernel) rfl⟩
theorem am_flr_2_18 : am_flP (2, 18, 2, 2) := ⟨by decide, am_in1 (i := 68) (by decide +kernel) rfl⟩
theorem am_flr_2_21 : am_flP (2, 21, 2, 3) := ⟨by decide, am_in1 (i := 70) (by decide +kernel) rfl⟩
theorem am_flr_2_25 : am_flP (2, 25, 2, 4) := ⟨by decide, am_in1 (i := 72) (by decide +kernel) rfl⟩
theorem am_flr_2_28 : am_flP (2, 28, 2, 5) := ⟨by decide, am_in1 (i := 73) (by decide +kernel) rfl⟩
theorem am_flr_2_31 : am_flP (2, 31, 2, 6) := ⟨by decide, am_in1 (i := 74) (by decide +kernel) rfl⟩
theorem am_flr_3_9 : am_flP (3, 9, 3, 1) := ⟨by decide, am_in1 (i := 98) (by decide +kernel) rfl⟩
theorem am_flr_3_15 : am_flP (3, 15, 3, 2) := ⟨by decide, am_in1 (i := 100) (by decide +kernel) rfl⟩
theorem am_flr_3_19 : am_flP (3, 19, 3, 3) := ⟨by decide, am_in1 (i := 102) (by decide +kernel) rfl⟩
theorem am_flr_3_22 : am_flP (3, 22, 3, 0) := ⟨by decide, am_in1 (i := 97) (by decide +kernel) rfl⟩
theorem am_flr_3_26 : am_flP (3, 26, 4, 1) := ⟨by decide, am_in1 (i := 135) (by decide +kernel) rfl⟩
theorem am_flr_3_37 : am_flP (3, 37, 4, 0) := ⟨by decide, am_in1 (i := 130) (by decide +kernel) rfl⟩
theorem am_flr_3_69 : am_flP (3, 69, 6, 0) := ⟨by decide, am_in1 (i := 37) (by decide +kernel) rfl⟩
theorem am_flr_4_9 : am_flP (4, 9, 4, 1) := ⟨by decide, am_in1 (i := 134) (by decide +kernel) rfl⟩
theorem am_flr_4_13 : am_flP (4, 13, 4, 0) := ⟨by decide, am_in1 (i := 128) (by decide +kernel) rfl⟩
theorem am_flr_5_12 : am_flP (5, 12, 5, 0) := ⟨by decide, am_in1 (i := 47) (by decide +kernel) rfl⟩
theorem am_flr_5_18 : am_flP (5, 18, 5, 1) := ⟨by decide, am_in1 (i := 49) (by decide +kernel) rfl⟩
theorem am_flr_5_25 : am_flP (5, 25, 4, 1) := ⟨by decide, am_in1 (i := 136) (by decide +kernel) rfl⟩
theorem am_flr_5_30 : am_flP (5, 30, 4, 0) := ⟨by decide, am_in1 (i := 129) (by decide +kernel) rfl⟩
theorem am_flr_5_40 : am_flP (5, 40, 6, 0) := ⟨by decide, am_in1 (i := 36) (by decide +kernel) rfl⟩
theorem am_flr_6_9 : am_flP (6, 9, 6, 0) := ⟨by decide, am_in1 (i := 35) (by decide +kernel) rfl⟩
theorem am_flr_6_15 : am_flP (6, 15, 6, 1) := ⟨by decide, am_in1 (i := 39) (by decide +kernel) rfl⟩
theorem am_flr_7_7 : am_flP (7, 7, 7, 0) := ⟨by decide, am_in4 (i := 5) (by decide +kernel) rfl⟩
theorem am_flr_7_13 : am_flP (7, 13, 7, 1) := ⟨by decide, am_in4 (i := 6) (by decide +kernel) rfl⟩
theorem am_flr_7_16 : am_flP (7, 16, 7, 3) := ⟨by decide, am_in4 (i := 8) (by decide +kernel) rfl⟩
theorem am_flr_7_19 : am_flP (7, 19, 7, 4) := ⟨by decide, am_in4 (i := 9) (by decide +kernel) rfl⟩
theorem am_flr_7_22 : am_flP (7, 22, 7, 5) := ⟨by decide, am_in4 (i := 10) (by decide +kernel) rfl⟩
theorem am_flr_7_25 : am_flP (7, 25, 7, 6) := ⟨by decide, am_in4 (i := 11) (by decide +kernel) rfl⟩
theorem am_flr_7_29 : am_flP (7, 29, 7, 7) := ⟨by decide, am_in4 (i := 12) (by decide +kernel) rfl⟩
theorem am_flr_7_32 : am_flP (7, 32, 7, 10) := ⟨by decide, am_in4 (i := 15) (by decide +kernel) rfl⟩
theorem am_flr_7_36 : am_flP (7, 36, 7, 12) := ⟨by decide, am_in4 (i := 17) (by decide +kernel) rfl⟩
theorem am_flr_7_39 : am_flP (7, 39, 7, 13) := ⟨by decide, am_in4 (i := 18) (by decide +kernel) rfl⟩
theorem am_flr_7_42 : am_flP (7, 42, 7, 14) := ⟨by decide, am_in4 (i := 19) (by decide +kernel) rfl⟩
theorem am_flr_7_45 : am_flP (7, 45, 7, 16) := ⟨by decide, am_in4 (i := 21) (by decide +kernel) rfl⟩
theorem am_flr_7_48 : am_flP (7, 48, 7, 11) := ⟨by decide, am_in4 (i := 16) (by decide +kernel) rfl⟩
theorem am_flr_7_52 : am_flP (7, 52, 7, 8) := ⟨by decide, am_in4 (i := 13) (by decide +kernel) rfl⟩
theorem am_flr_7_80 : am_flP (7, 80, 7, 15) := ⟨by decide, am_in4 (i := 20) (by decide +kernel) rfl⟩
theorem am_flr_7_95 : am_flP (7, 95, 7, 2) := ⟨by decide, am_in4 (i := 7) (by decide +kernel) rfl⟩
theorem am_flr_7_183 : am_flP (7, 183, 7, 9) := ⟨by decide, am_in4 (i := 14) (by decide +kernel) rfl⟩
theorem am_flr_8_41 : am_flP (8, 41, 4, 1) := ⟨by decide, am_in1 (i := 139) (by decide +kernel) rfl⟩
theorem am_flr_8_47 : am_flP (8, 47, 4, 0) := ⟨by decide, am_in1 (i := 133) (by decide +kernel) rfl⟩
def am_fl_0 : List (Nat × Nat × Nat × Nat) := [(0, 11, 0, 0), (0, 15, 0, 1), (0, 21, 0, 2), (0, 28, 0, 3), (0, 35, 0, 4), (0, 39, 0, 5), (0, 48, 0, 6), (0, 55, 0, 7), (0, 59, 0, 8), (0, 63, 0, 9), (0, 67, 0, 10), (0, 70, 0, 11), (0, 74, 0, 12), (0, 99, 4, 0), (0, 108, 4, 1), (0, 138, 5, 0), (0, 142, 5, 1), (0, 148, 6, 0), (0, 157, 6, 1), (0, 166, 2, 0)]
theorem am_fl_0_ok : ∀ q ∈ am_fl_0, am_flP q := List.forall_mem_cons.mpr ⟨am_flr_0_11, List.forall_mem_cons.mpr ⟨am_flr_0_15, List.forall_mem_cons.mpr ⟨am_flr_0_21, List.forall_mem_cons.mpr ⟨am_flr_0_28, List.forall_mem_cons.mpr ⟨am_flr_0_35, List.forall_mem_cons.mpr ⟨am_flr_0_39, List.forall_mem_cons.mpr ⟨am_flr_0_48, List.forall_mem_cons.mpr ⟨am_flr_0_55, List.forall_mem_cons.mpr ⟨am_flr_0_59, List.forall_mem_cons.mpr ⟨am_flr_0_63, List.forall_mem_cons.mpr ⟨am_flr_0_67, List.forall_mem_cons.mpr ⟨am_flr_0_70, List.forall_mem_cons.mpr ⟨am_flr_0_74, List.forall_mem_cons.mpr ⟨am_flr_0_99, List.forall_mem_cons.mpr ⟨am_flr_0_108, List.forall_mem_cons.mpr ⟨am_flr_0_138, List.forall_mem_cons.mpr ⟨am_flr_0_142, List.forall_mem_cons.mpr ⟨am_flr_0_148, List.forall_mem_cons.mpr ⟨am_flr_0_157, List.forall_mem_cons.mpr ⟨am_flr_0_166, fun _ h => absurd h List.not_mem_nil⟩⟩⟩⟩⟩⟩⟩⟩⟩⟩⟩⟩⟩⟩⟩⟩⟩⟩⟩⟩
def am_fl_1 : List (Nat × Nat × Nat × Nat) := [(0, 204, 2, 2), (0, 233, 3, 1), (0, 248, 3, 2), (0, 259, 3, 3), (0, 302, 2, 1), (0, 339, 2, 3), (1, 9, 1, 0), (1, 21, 4, 1), (1, 33, 4, 0), (2, 9, 2, 0), (2, 15, 2, 1), (2, 18, 2, 2), (2, 21, 2, 3), (2, 25, 2, 4), (2, 28, 2, 5), (2, 31, 2, 6), (3, 9, 3, 1), (3, 15, 3, 2), (3, 19, 3, 3), (3, 22, 3, 0)]
theorem am_fl_1_ok : ∀ q ∈ am_fl_1, am_flP q := List.forall_mem_cons.mpr ⟨am_flr_0_204, List.forall_mem_cons.mpr ⟨am_flr_0_233, List.forall_mem_cons.mpr ⟨am_flr_0_248, List.forall_mem_cons.mpr ⟨am_flr_0_259, List.forall_mem_cons.mpr ⟨am_flr_0_302, List.forall_mem_cons.mpr ⟨am_flr_0_339, List.forall_mem_cons.mpr ⟨am_flr_1_9, List.forall_mem_cons.mpr ⟨am_flr_1_21, List.forall_mem_cons.mpr ⟨am_flr_1_33, List.forall_mem_cons.mpr ⟨am_flr_2_9, List.forall_mem_cons.mpr ⟨am_flr_2_15, List.forall_mem_cons.mpr ⟨am_flr_2_18, List.forall_mem_cons.mpr ⟨am_flr_2_21, List.forall_mem_cons.mpr ⟨am_flr_2_25, List.forall_mem_cons.mpr ⟨am_flr_2_28, List.forall_mem_cons.mpr ⟨am_flr_2_31, List.forall_mem_cons.mpr ⟨am_flr_3_9, List.forall_mem_cons.mpr ⟨am_flr_3_15, List.forall_mem_cons.mpr ⟨am_flr_3_19, List.forall_mem_cons.mpr ⟨am_flr_3_22, fun _ h => absurd h List.not_mem_nil⟩⟩⟩⟩⟩⟩⟩⟩⟩⟩⟩⟩⟩⟩⟩⟩⟩⟩⟩⟩
def am_fl_2 : List (Nat × Nat × Nat × Nat) := [(3, 26, 4, 1), (3, 37, 4, 0), (3, 69, 6, 0), (4, 9, 4, 1), (4, 13, 4, 0), (5, 12, 5, 0), (5, 18, 5, 1), (5, 25, 4, 1), (5, 30, 4, 0), (5, 40, 6, 0), (6, 9, 6, 0), (6, 15, 6, 1), (7, 7, 7, 0), (7, 13, 7, 1), (7, 16, 7, 3), (7, 19, 7, 4), (7, 22, 7, 5), (7, 25, 7, 6), (7, 29, 7, 7), (7, 32, 7, 10)]
theorem am_fl_2_ok : ∀ q ∈ am_fl_2, am_flP q := List.forall_mem_cons.mpr ⟨am_flr_3_26, List.forall_mem_cons.mpr ⟨am_flr_3_37, List.forall_mem_cons.mpr ⟨am_flr_3_69, List.forall_mem_cons.mpr ⟨am_flr_4_9, List.forall_mem_cons.mpr ⟨am_flr_4_13, List.forall_mem_cons.mpr ⟨am_flr_5_12, List.forall_mem_cons.mpr ⟨am_flr_5_18, List.forall_mem_cons.mpr ⟨am_flr_5_25, List.forall_mem_cons.mpr ⟨am_flr_5_30, List.forall_mem_cons.mpr ⟨am_flr_5_40, List.forall_mem_cons.mpr ⟨am_flr_6_9, List.forall_mem_cons.mpr ⟨am_flr_6_15, List.forall_mem_cons.mpr ⟨am_flr_7_7, List.forall_mem_cons.mpr ⟨am_flr_7_13, List.forall_mem_cons.mpr ⟨am_flr_7_16, List.forall_mem_cons.mpr ⟨am_flr_7_19, List.forall_mem_cons.mpr ⟨am_flr_7_22, List.forall_mem_cons.mpr ⟨am_flr_7_25, List.forall_mem_cons.mpr ⟨am_flr_7_29, List.forall_mem_cons.mpr ⟨am_flr_7_32, fun _ h => absurd h List.not_mem_nil⟩⟩⟩⟩⟩⟩⟩⟩⟩⟩⟩⟩⟩⟩⟩⟩⟩⟩⟩⟩
def am_fl_3 : List (Nat × Nat × Nat × Nat) := [(7, 36, 7, 12), (7, 39, 7, 13), (7, 42, 7, 14), (7, 45, 7, 16), (7, 48, 7, 11), (7, 52, 7, 8), (7, 80, 7, 15), (7, 95, 7, 2), (7, 183, 7, 9), (8, 41, 4, 1), (8, 47, 4, 0)]
theorem am_fl_3_ok : ∀ q ∈ am_fl_3, am_flP q := List.forall_mem_cons.mpr ⟨am_flr_7_36, List.forall_mem_cons.mpr ⟨am_flr_7_39, List.forall_mem_cons.mpr ⟨am_flr_7_42, List.forall_mem_cons.mpr ⟨am_flr_7_45, List.forall_mem_cons.mpr ⟨am_flr_7_48, List.forall_mem_cons.mpr ⟨am_flr_7_52, List.forall_mem_cons.mpr ⟨am_flr_7_80, List.forall_mem_cons.mpr ⟨am_flr_7_95, List.forall_mem_cons.mpr ⟨am_flr_7_183, List.forall_mem_cons.mpr ⟨am_flr_8_41, List.forall_mem_cons.mpr ⟨am_flr_8_47, fun _ h => absurd h List.not_mem_nil⟩⟩⟩⟩⟩⟩⟩⟩⟩⟩⟩
def am_fl : List (Nat × Nat × Nat × Nat) := am_fl_0 ++ (am_fl_1 ++ (am_fl_2 ++ (am_fl_3)))
theorem am_fl_ok : ∀ q ∈ am_fl, am_flP q := fun q h => by unfold am_fl at h; exact (List.mem_append.mp h).elim (am_fl_0_ok q) (fun h => (List.mem_append.mp h).elim (am_fl_1_ok q) (fun h => (List.mem_append.mp h).elim (am_fl_2_ok q) (fun h => am_fl_3_ok q h)))
def am_mkP (q : Nat × Nat × Nat × Nat × Nat × Nat) : Prop := match q with
  | (oc, idx, mi, b, c, kd) => match kd with
    | 0 => am_mP mi ∧ Cond.methodLink (am_own oc) idx (am_m mi).1 ∈ am_TB ∧ Cond.instanceMethod (am_m mi).1 ∈ am_TB ∧ Cond.selects (am_m mi).1.cls (am_m mi).1 (am_m mi).1 ∈ am_TB ∧ (parseMethodDescriptor (am_m mi).1.desc).map (fun d => d.parameters.length + 1) = some b ∧ (am_own c = (am_m mi).1.cls ∧ c < 8)
    | 1 => am_mP mi ∧ Cond.methodLink (am_own oc) idx (am_m mi).1 ∈ am_TB ∧ Cond.static (am_m mi).1 ∈ am_TB ∧ (parseMethodDescriptor (am_m mi).1.desc).map (fun d => d.parameters.length) = some b
    | 2 => am_mP mi ∧ Cond.methodLink (am_own oc) idx (am_m mi).1 ∈ am_TB ∧ Cond.instanceMethod (am_m mi).1 ∈ am_TB ∧ (parseMethodDescriptor (am_m mi).1.desc).map (fun d => d.parameters.length + 1) = some b ∧ (am_m mi).1.name = "<init>" ∧ (am_m mi).2.2.2.1 = none
    | 3 => Cond.methodLink (am_own oc) idx Lib.objectInit ∈ am_TB
    | 4 => Cond.methodLink (am_own oc) idx arraycopyName ∈ am_TB
    | 5 => am_mP mi ∧ Cond.methodLinkNest (am_own oc) idx (am_m mi).1 "ThingsThrown" ∈ am_nest ∧ Cond.instanceMethod (am_m mi).1 ∈ am_TB ∧ (parseMethodDescriptor (am_m mi).1.desc).map (fun d => d.parameters.length + 1) = some b ∧ (am_m mi).1.name = "<init>" ∧ (am_m mi).2.2.2.1 = none
    | 6 => Cond.methodLink (am_own oc) idx Lib.Math.max.name ∈ am_TB
    | _ => Cond.methodLink (am_own oc) idx Lib.Math.min.name ∈ am_TB
theorem am_mkr_0_1 : am_mkP (0, 1, 9000, 0, 0, 3) := am_in1 (i := 18) (by decide +kernel) rfl
theorem am_mkr_0_20 : am_mkP (0, 20, 1, 1, 5, 5) := ⟨am_mP_1, by rw [am_m_1]; decide +kernel, by rw [am_m_1]; exact am_in1 (i := 26) (by decide +kernel) rfl, by rw [am_m_1]; decide +kernel, by rw [am_m_1], by rw [am_m_1]⟩
theorem am_mkr_0_27 : am_mkP (0, 27, 2, 1, 6, 5) := ⟨am_mP_2, by rw [am_m_2]; decide +kernel, by rw [am_m_2]; exact am_in1 (i := 32) (by decide +kernel) rfl, by rw [am_m_2]; decide +kernel, by rw [am_m_2], by rw [am_m_2]⟩
theorem am_mkr_0_34 : am_mkP (0, 34, 3, 1, 2, 5) := ⟨am_mP_3, by rw [am_m_3]; decide +kernel, by rw [am_m_3]; exact am_in1 (i := 61) (by decide +kernel) rfl, by rw [am_m_3]; decide +kernel, by rw [am_m_3], by rw [am_m_3]⟩
theorem am_mkr_0_45 : am_mkP (0, 45, 4, 2, 3, 2) := ⟨am_mP_4, by rw [am_m_4]; exact am_in1 (i := 93) (by decide +kernel) rfl, by rw [am_m_4]; exact am_in1 (i := 94) (by decide +kernel) rfl, by rw [am_m_4]; decide +kernel, by rw [am_m_4], by rw [am_m_4]⟩
theorem am_mkr_0_54 : am_mkP (0, 54, 5, 2, 1, 2) := ⟨am_mP_5, by rw [am_m_5]; exact am_in1 (i := 115) (by decide +kernel) rfl, by rw [am_m_5]; exact am_in1 (i := 116) (by decide +kernel) rfl, by rw [am_m_5]; decide +kernel, by rw [am_m_5], by rw [am_m_5]⟩
theorem am_mkr_0_77 : am_mkP (0, 77, 6, 2, 4, 2) := ⟨am_mP_6, by rw [am_m_6]; exact am_in1 (i := 124) (by decide +kernel) rfl, by rw [am_m_6]; exact am_in1 (i := 125) (by decide +kernel) rfl, by rw [am_m_6]; decide +kernel, by rw [am_m_6], by rw [am_m_6]⟩
theorem am_mkr_0_80 : am_mkP (0, 80, 7, 1, 2, 0) := ⟨am_mP_7, by rw [am_m_7]; exact am_in1 (i := 145) (by decide +kernel) rfl, by rw [am_m_7]; exact am_in1 (i := 146) (by decide +kernel) rfl, by rw [am_m_7]; exact am_in1 (i := 147) (by decide +kernel) rfl, by rw [am_m_7]; decide +kernel, by rw [am_m_7]; decide +kernel⟩
theorem am_mkr_0_83 : am_mkP (0, 83, 9, 1, 0, 1) := ⟨am_mP_9, by rw [am_m_9]; exact am_in1 (i := 193) (by decide +kernel) rfl, by rw [am_m_9]; exact am_in1 (i := 194) (by decide +kernel) rfl, by rw [am_m_9]; decide +kernel⟩
theorem am_mkr_0_87 : am_mkP (0, 87, 10, 2, 0, 0) := ⟨am_mP_10, by rw [am_m_10]; exact am_in1 (i := 196) (by decide +kernel) rfl, by rw [am_m_10]; exact am_in1 (i := 198) (by decide +kernel) rfl, by rw [am_m_10]; exact am_inP (q := (⟨"ThingsThrown", "found", "(I)I"⟩, 13)) (am_inP1 (i := 0) (by decide +kernel)) rfl, by rw [am_m_10]; decide +kernel, by rw [am_m_10]; decide +kernel⟩
theorem am_mkr_0_91 : am_mkP (0, 91, 11, 3, 4, 0) := ⟨am_mP_11, by rw [am_m_11]; exact am_in1 (i := 200) (by decide +kernel) rfl, by rw [am_m_11]; exact am_in1 (i := 201) (by decide +kernel) rfl, by rw [am_m_11]; exact am_in1 (i := 202) (by decide +kernel) rfl, by rw [am_m_11]; decide +kernel, by rw [am_m_11]; decide +kernel⟩
theorem am_mkr_0_95 : am_mkP (0, 95, 13, 3, 0, 0) := ⟨am_mP_13, by rw [am_m_13]; exact am_in1 (i := 214) (by decide +kernel) rfl, by rw [am_m_13]; exact am_in1 (i := 216) (by decide +kernel) rfl, by rw [am_m_13]; exact am_inP (q := (⟨"ThingsThrown", "refusalOfPlace", "(II)I"⟩, 13)) (am_inP1 (i := 1) (by decide +kernel)) rfl, by rw [am_m_13]; decide +kernel, by rw [am_m_13]; decide +kernel⟩
theorem am_mkr_0_102 : am_mkP (0, 102, 17, 2, 0, 0) := ⟨am_mP_17, by rw [am_m_17]; exact am_in1 (i := 230) (by decide +kernel) rfl, by rw [am_m_17]; exact am_in1 (i := 232) (by decide +kernel) rfl, by rw [am_m_17]; exact am_inP (q := (⟨"ThingsThrown", "tell", "(I)I"⟩, 13)) (am_inP1 (i := 3) (by decide +kernel)) rfl, by rw [am_m_17]; decide +kernel, by rw [am_m_17]; decide +kernel⟩
theorem am_mkr_0_105 : am_mkP (0, 105, 14, 2, 0, 0) := ⟨am_mP_14, by rw [am_m_14]; exact am_in1 (i := 218) (by decide +kernel) rfl, by rw [am_m_14]; exact am_in1 (i := 220) (by decide +kernel) rfl, by rw [am_m_14]; exact am_inP (q := (⟨"ThingsThrown", "refusalOfRow", "(I)I"⟩, 13)) (am_inP1 (i := 2) (by decide +kernel)) rfl, by rw [am_m_14]; decide +kernel, by rw [am_m_14]; decide +kernel⟩
theorem am_mkr_0_111 : am_mkP (0, 111, 15, 1, 4, 0) := ⟨am_mP_15, by rw [am_m_15]; exact am_in1 (i := 222) (by decide +kernel) rfl, by rw [am_m_15]; exact am_in1 (i := 223) (by decide +kernel) rfl, by rw [am_m_15]; exact am_in1 (i := 224) (by decide +kernel) rfl, by rw [am_m_15]; decide +kernel, by rw [am_m_15]; decide +kernel⟩
theorem am_mkr_0_115 : am_mkP (0, 115, 21, 3, 4, 0) := ⟨am_mP_21, by rw [am_m_21]; exact am_in2 (i := 6) (by decide +kernel) rfl, by rw [am_m_21]; exact am_in2 (i := 7) (by decide +kernel) rfl, by rw [am_m_21]; exact am_in2 (i := 8) (by decide +kernel) rfl, by rw [am_m_21]; decide +kernel, by rw [am_m_21]; decide +kernel⟩
theorem am_mkr_0_119 : am_mkP (0, 119, 9001, 0, 0, 4) := am_in2 (i := 10) (by decide +kernel) rfl
theorem am_mkr_0_125 : am_mkP (0, 125, 24, 1, 0, 1) := ⟨am_mP_24, by rw [am_m_24]; exact am_in2 (i := 21) (by decide +kernel) rfl, by rw [am_m_24]; exact am_in2 (i := 22) (by decide +kernel) rfl, by rw [am_m_24]; decide +kernel⟩
theorem am_mkr_0_128 : am_mkP (0, 128, 26, 2, 0, 0) := ⟨am_mP_26, by rw [am_m_26]; exact am_in2 (i := 28) (by decide +kernel) rfl, by rw [am_m_26]; exact am_in2 (i := 30) (by decide +kernel) rfl, by rw [am_m_26]; exact am_inP (q := (⟨"ThingsThrown", "refusalOfText", "(I)I"⟩, 13)) (am_inP1 (i := 4) (by decide +kernel)) rfl, by rw [am_m_26]; decide +kernel, by rw [am_m_26]; decide +kernel⟩
theorem am_mkr_0_131 : am_mkP (0, 131, 16, 2, 4, 0) := ⟨am_mP_16, by rw [am_m_16]; exact am_in1 (i := 226) (by decide +kernel) rfl, by rw [am_m_16]; exact am_in1 (i := 227) (by decide +kernel) rfl, by rw [am_m_16]; exact am_in1 (i := 228) (by decide +kernel) rfl, by rw [am_m_16]; decide +kernel, by rw [am_m_16]; decide +kernel⟩
theorem am_mkr_0_134 : am_mkP (0, 134, 28, 2, 5, 0) := ⟨am_mP_28, by rw [am_m_28]; exact am_in2 (i := 36) (by decide +kernel) rfl, by rw [am_m_28]; exact am_in2 (i := 37) (by decide +kernel) rfl, by rw [am_m_28]; exact am_in2 (i := 38) (by decide +kernel) rfl, by rw [am_m_28]; decide +kernel, by rw [am_m_28]; decide +kernel⟩
theorem am_mkr_0_139 : am_mkP (0, 139, 37, 2, 6, 0) := ⟨am_mP_37, by rw [am_m_37]; exact am_in2 (i := 71) (by decide +kernel) rfl, by rw [am_m_37]; exact am_in2 (i := 72) (by decide +kernel) rfl, by rw [am_m_37]; exact am_in2 (i := 73) (by decide +kernel) rfl, by rw [am_m_37]; decide +kernel, by rw [am_m_37]; decide +kernel⟩
theorem am_mkr_0_145 : am_mkP (0, 145, 38, 2, 2, 0) := ⟨am_mP_38, by rw [am_m_38]; exact am_in2 (i := 76) (by decide +kernel) rfl, by rw [am_m_38]; exact am_in2 (i := 77) (by decide +kernel) rfl, by rw [am_m_38]; exact am_in2 (i := 78) (by decide +kernel) rfl, by rw [am_m_38]; decide +kernel, by rw [am_m_38]; decide +kernel⟩
theorem am_mkr_0_149 : am_mkP (0, 149, 40, 2, 0, 0) := ⟨am_mP_40, by rw [am_m_40]; exact am_in2 (i := 84) (by decide +kernel) rfl, by rw [am_m_40]; exact am_in2 (i := 86) (by decide +kernel) rfl, by rw [am_m_40]; exact am_inP (q := (⟨"ThingsThrown", "isThing", "(I)Z"⟩, 13)) (am_inP1 (i := 6) (by decide +kernel)) rfl, by rw [am_m_40]; decide +kernel, by rw [am_m_40]; decide +kernel⟩
theorem am_mkr_0_152 : am_mkP (0, 152, 41, 3, 0, 0) := ⟨am_mP_41, by rw [am_m_41]; exact am_in2 (i := 88) (by decide +kernel) rfl, by rw [am_m_41]; exact am_in2 (i := 90) (by decide +kernel) rfl, by rw [am_m_41]; exact am_inP (q := (⟨"ThingsThrown", "ofThing", "(II)I"⟩, 13)) (am_inP1 (i := 7) (by decide +kernel)) rfl, by rw [am_m_41]; decide +kernel, by rw [am_m_41]; decide +kernel⟩
theorem am_mkr_0_160 : am_mkP (0, 160, 44, 2, 0, 1) := ⟨am_mP_44, by rw [am_m_44]; exact am_in2 (i := 104) (by decide +kernel) rfl, by rw [am_m_44]; exact am_in2 (i := 105) (by decide +kernel) rfl, by rw [am_m_44]; decide +kernel⟩
theorem am_mkr_0_163 : am_mkP (0, 163, 45, 1, 0, 1) := ⟨am_mP_45, by rw [am_m_45]; exact am_in2 (i := 109) (by decide +kernel) rfl, by rw [am_m_45]; exact am_in2 (i := 110) (by decide +kernel) rfl, by rw [am_m_45]; decide +kernel⟩
theorem am_mkr_0_167 : am_mkP (0, 167, 33, 2, 0, 1) := ⟨am_mP_33, by rw [am_m_33]; exact am_in2 (i := 92) (by decide +kernel) rfl, by rw [am_m_33]; exact am_in2 (i := 58) (by decide +kernel) rfl, by rw [am_m_33]; decide +kernel⟩
theorem am_mkr_0_170 : am_mkP (0, 170, 47, 1, 0, 1) := ⟨am_mP_47, by rw [am_m_47]; exact am_in2 (i := 117) (by decide +kernel) rfl, by rw [am_m_47]; exact am_in2 (i := 118) (by decide +kernel) rfl, by rw [am_m_47]; decide +kernel⟩
theorem am_mkr_0_173 : am_mkP (0, 173, 48, 3, 6, 0) := ⟨am_mP_48, by rw [am_m_48]; exact am_in2 (i := 120) (by decide +kernel) rfl, by rw [am_m_48]; exact am_in2 (i := 121) (by decide +kernel) rfl, by rw [am_m_48]; exact am_in2 (i := 122) (by decide +kernel) rfl, by rw [am_m_48]; decide +kernel, by rw [am_m_48]; decide +kernel⟩
theorem am_mkr_0_176 : am_mkP (0, 176, 49, 3, 6, 0) := ⟨am_mP_49, by rw [am_m_49]; exact am_in2 (i := 124) (by decide +kernel) rfl, by rw [am_m_49]; exact am_in2 (i := 125) (by decide +kernel) rfl, by rw [am_m_49]; exact am_in2 (i := 126) (by decide +kernel) rfl, by rw [am_m_49]; decide +kernel, by rw [am_m_49]; decide +kernel⟩
theorem am_mkr_0_179 : am_mkP (0, 179, 51, 1, 0, 1) := ⟨am_mP_51, by rw [am_m_51]; exact am_in2 (i := 132) (by decide +kernel) rfl, by rw [am_m_51]; exact am_in2 (i := 133) (by decide +kernel) rfl, by rw [am_m_51]; decide +kernel⟩
theorem am_mkr_0_182 : am_mkP (0, 182, 52, 3, 6, 0) := ⟨am_mP_52, by rw [am_m_52]; exact am_in2 (i := 135) (by decide +kernel) rfl, by rw [am_m_52]; exact am_in2 (i := 136) (by decide +kernel) rfl, by rw [am_m_52]; exact am_in2 (i := 137) (by decide +kernel) rfl, by rw [am_m_52]; decide +kernel, by rw [am_m_52]; decide +kernel⟩
theorem am_mkr_0_185 : am_mkP (0, 185, 55, 1, 2, 0) := ⟨am_mP_55, by rw [am_m_55]; exact am_in2 (i := 148) (by decide +kernel) rfl, by rw [am_m_55]; exact am_in2 (i := 149) (by decide +kernel) rfl, by rw [am_m_55]; exact am_in2 (i := 150) (by decide +kernel) rfl, by rw [am_m_55]; decide +kernel, by rw [am_m_55]; decide +kernel⟩
theorem am_mkr_0_188 : am_mkP (0, 188, 56, 2, 0, 0) := ⟨am_mP_56, by rw [am_m_56]; exact am_in2 (i := 152) (by decide +kernel) rfl, by rw [am_m_56]; exact am_in2 (i := 154) (by decide +kernel) rfl, by rw [am_m_56]; exact am_inP (q := (⟨"ThingsThrown", "enterThrow", "(I)V"⟩, 13)) (am_inP1 (i := 8) (by decide +kernel)) rfl, by rw [am_m_56]; decide +kernel, by rw [am_m_56]; decide +kernel⟩
theorem am_mkr_0_191 : am_mkP (0, 191, 61, 1, 0, 0) := ⟨am_mP_61, by rw [am_m_61]; exact am_in2 (i := 176) (by decide +kernel) rfl, by rw [am_m_61]; exact am_in2 (i := 178) (by decide +kernel) rfl, by rw [am_m_61]; exact am_inP (q := (⟨"ThingsThrown", "skyNow", "()I"⟩, 13)) (am_inP1 (i := 9) (by decide +kernel)) rfl, by rw [am_m_61]; decide +kernel, by rw [am_m_61]; decide +kernel⟩
theorem am_mkr_0_195 : am_mkP (0, 195, 53, 2, 6, 0) := ⟨am_mP_53, by rw [am_m_53]; exact am_in2 (i := 156) (by decide +kernel) rfl, by rw [am_m_53]; exact am_in2 (i := 140) (by decide +kernel) rfl, by rw [am_m_53]; exact am_in2 (i := 141) (by decide +kernel) rfl, by rw [am_m_53]; decide +kernel, by rw [am_m_53]; decide +kernel⟩
theorem am_mkr_0_198 : am_mkP (0, 198, 63, 1, 0, 0) := ⟨am_mP_63, by rw [am_m_63]; exact am_in2 (i := 185) (by decide +kernel) rfl, by rw [am_m_63]; exact am_in2 (i := 187) (by decide +kernel) rfl, by rw [am_m_63]; exact am_inP (q := (⟨"ThingsThrown", "enterRest", "()V"⟩, 13)) (am_inP1 (i := 10) (by decide +kernel)) rfl, by rw [am_m_63]; decide +kernel, by rw [am_m_63]; decide +kernel⟩
theorem am_mkr_0_201 : am_mkP (0, 201, 65, 3, 0, 0) := ⟨am_mP_65, by rw [am_m_65]; exact am_in2 (i := 194) (by decide +kernel) rfl, by rw [am_m_65]; exact am_in2 (i := 196) (by decide +kernel) rfl, by rw [am_m_65]; exact am_inP (q := (⟨"ThingsThrown", "enterExchange", "(II)V"⟩, 13)) (am_inP1 (i := 11) (by decide +kernel)) rfl, by rw [am_m_65]; decide +kernel, by rw [am_m_65]; decide +kernel⟩
theorem am_mkr_0_207 : am_mkP (0, 207, 68, 2, 2, 0) := ⟨am_mP_68, by rw [am_m_68]; exact am_in2 (i := 205) (by decide +kernel) rfl, by rw [am_m_68]; exact am_in2 (i := 206) (by decide +kernel) rfl, by rw [am_m_68]; exact am_in2 (i := 207) (by decide +kernel) rfl, by rw [am_m_68]; decide +kernel, by rw [am_m_68]; decide +kernel⟩
theorem am_mkr_0_210 : am_mkP (0, 210, 70, 1, 0, 1) := ⟨am_mP_70, by rw [am_m_70]; exact am_in2 (i := 213) (by decide +kernel) rfl, by rw [am_m_70]; exact am_in2 (i := 214) (by decide +kernel) rfl, by rw [am_m_70]; decide +kernel⟩
theorem am_mkr_0_213 : am_mkP (0, 213, 71, 2, 2, 0) := ⟨am_mP_71, by rw [am_m_71]; exact am_in2 (i := 216) (by decide +kernel) rfl, by rw [am_m_71]; exact am_in2 (i := 217) (by decide +kernel) rfl, by rw [am_m_71]; exact am_in2 (i := 218) (by decide +kernel) rfl, by rw [am_m_71]; decide +kernel, by rw [am_m_71]; decide +kernel⟩
theorem am_mkr_0_216 : am_mkP (0, 216, 60, 1, 2, 0) := ⟨am_mP_60, by rw [am_m_60]; exact am_in2 (i := 225) (by decide +kernel) rfl, by rw [am_m_60]; exact am_in2 (i := 172) (by decide +kernel) rfl, by rw [am_m_60]; exact am_in2 (i := 173) (by decide +kernel) rfl, by rw [am_m_60]; decide +kernel, by rw [am_m_60]; decide +kernel⟩
theorem am_mkr_0_219 : am_mkP (0, 219, 46, 2, 0, 1) := ⟨am_mP_46, by rw [am_m_46]; exact am_in2 (i := 230) (by decide +kernel) rfl, by rw [am_m_46]; exact am_in2 (i := 113) (by decide +kernel) rfl, by rw [am_m_46]; decide +kernel⟩
theorem am_mkr_0_222 : am_mkP (0, 222, 75, 2, 6, 0) := ⟨am_mP_75, by rw [am_m_75]; exact am_in2 (i := 235) (by decide +kernel) rfl, by rw [am_m_75]; exact am_in2 (i := 236) (by decide +kernel) rfl, by rw [am_m_75]; exact am_in2 (i := 237) (by decide +kernel) rfl, by rw [am_m_75]; decide +kernel, by rw [am_m_75]; decide +kernel⟩
theorem am_mkr_0_225 : am_mkP (0, 225, 77, 4, 0, 0) := ⟨am_mP_77, by rw [am_m_77]; exact am_in3 (i := 3) (by decide +kernel) rfl, by rw [am_m_77]; exact am_in3 (i := 5) (by decide +kernel) rfl, by rw [am_m_77]; exact am_inP (q := (⟨"ThingsThrown", "refusalOfThrows", "(III)I"⟩, 13)) (am_inP1 (i := 12) (by decide +kernel)) rfl, by rw [am_m_77]; decide +kernel, by rw [am_m_77]; decide +kernel⟩
theorem am_mkr_0_229 : am_mkP (0, 229, 78, 3, 3, 0) := ⟨am_mP_78, by rw [am_m_78]; exact am_in3 (i := 7) (by decide +kernel) rfl, by rw [am_m_78]; exact am_in3 (i := 8) (by decide +kernel) rfl, by rw [am_m_78]; exact am_in3 (i := 9) (by decide +kernel) rfl, by rw [am_m_78]; decide +kernel, by rw [am_m_78]; decide +kernel⟩
theorem am_mkr_0_236 : am_mkP (0, 236, 32, 2, 6, 0) := ⟨am_mP_32, by rw [am_m_32]; exact am_in2 (i := 180) (by decide +kernel) rfl, by rw [am_m_32]; exact am_in2 (i := 54) (by decide +kernel) rfl, by rw [am_m_32]; exact am_in2 (i := 55) (by decide +kernel) rfl, by rw [am_m_32]; decide +kernel, by rw [am_m_32]; decide +kernel⟩
theorem am_mkr_0_239 : am_mkP (0, 239, 82, 3, 3, 0) := ⟨am_mP_82, by rw [am_m_82]; exact am_in3 (i := 26) (by decide +kernel) rfl, by rw [am_m_82]; exact am_in3 (i := 27) (by decide +kernel) rfl, by rw [am_m_82]; exact am_in3 (i := 28) (by decide +kernel) rfl, by rw [am_m_82]; decide +kernel, by rw [am_m_82]; decide +kernel⟩
theorem am_mkr_0_242 : am_mkP (0, 242, 85, 1, 0, 1) := ⟨am_mP_85, by rw [am_m_85]; exact am_in3 (i := 41) (by decide +kernel) rfl, by rw [am_m_85]; exact am_in3 (i := 42) (by decide +kernel) rfl, by rw [am_m_85]; decide +kernel⟩
theorem am_mkr_0_245 : am_mkP (0, 245, 86, 3, 3, 0) := ⟨am_mP_86, by rw [am_m_86]; exact am_in3 (i := 45) (by decide +kernel) rfl, by rw [am_m_86]; exact am_in3 (i := 46) (by decide +kernel) rfl, by rw [am_m_86]; exact am_in3 (i := 47) (by decide +kernel) rfl, by rw [am_m_86]; decide +kernel, by rw [am_m_86]; decide +kernel⟩
theorem am_mkr_0_251 : am_mkP (0, 251, 91, 3, 3, 0) := ⟨am_mP_91, by rw [am_m_91]; exact am_in3 (i := 69) (by decide +kernel) rfl, by rw [am_m_91]; exact am_in3 (i := 70) (by decide +kernel) rfl, by rw [am_m_91]; exact am_in3 (i := 71) (by decide +kernel) rfl, by rw [am_m_91]; decide +kernel, by rw [am_m_91]; decide +kernel⟩
theorem am_mkr_0_255 : am_mkP (0, 255, 93, 3, 0, 0) := ⟨am_mP_93, by rw [am_m_93]; exact am_in3 (i := 77) (by decide +kernel) rfl, by rw [am_m_93]; exact am_in3 (i := 79) (by decide +kernel) rfl, by rw [am_m_93]; exact am_inP (q := (⟨"ThingsThrown", "tellRatio", "(JJ)I"⟩, 13)) (am_inP2 (i := 1) (by decide +kernel)) rfl, by rw [am_m_93]; decide +kernel, by rw [am_m_93]; decide +kernel⟩
theorem am_mkr_0_262 : am_mkP (0, 262, 96, 3, 3, 0) := ⟨am_mP_96, by rw [am_m_96]; exact am_in3 (i := 88) (by decide +kernel) rfl, by rw [am_m_96]; exact am_in3 (i := 89) (by decide +kernel) rfl, by rw [am_m_96]; exact am_in3 (i := 90) (by decide +kernel) rfl, by rw [am_m_96]; decide +kernel, by rw [am_m_96]; decide +kernel⟩
theorem am_mkr_0_265 : am_mkP (0, 265, 98, 3, 0, 0) := ⟨am_mP_98, by rw [am_m_98]; exact am_in3 (i := 96) (by decide +kernel) rfl, by rw [am_m_98]; exact am_in3 (i := 98) (by decide +kernel) rfl, by rw [am_m_98]; exact am_inP (q := (⟨"ThingsThrown", "refusalOfPairs", "(II)I"⟩, 13)) (am_inP2 (i := 2) (by decide +kernel)) rfl, by rw [am_m_98]; decide +kernel, by rw [am_m_98]; decide +kernel⟩
theorem am_mkr_0_268 : am_mkP (0, 268, 99, 1, 0, 1) := ⟨am_mP_99, by rw [am_m_99]; exact am_in3 (i := 100) (by decide +kernel) rfl, by rw [am_m_99]; exact am_in3 (i := 101) (by decide +kernel) rfl, by rw [am_m_99]; decide +kernel⟩
theorem am_mkr_0_271 : am_mkP (0, 271, 102, 1, 0, 1) := ⟨am_mP_102, by rw [am_m_102]; exact am_in3 (i := 110) (by decide +kernel) rfl, by rw [am_m_102]; exact am_in3 (i := 111) (by decide +kernel) rfl, by rw [am_m_102]; decide +kernel⟩
theorem am_mkr_0_274 : am_mkP (0, 274, 103, 2, 0, 1) := ⟨am_mP_103, by rw [am_m_103]; exact am_in3 (i := 119) (by decide +kernel) rfl, by rw [am_m_103]; exact am_in3 (i := 114) (by decide +kernel) rfl, by rw [am_m_103]; decide +kernel⟩
theorem am_mkr_0_277 : am_mkP (0, 277, 106, 3, 3, 0) := ⟨am_mP_106, by rw [am_m_106]; exact am_in3 (i := 124) (by decide +kernel) rfl, by rw [am_m_106]; exact am_in3 (i := 125) (by decide +kernel) rfl, by rw [am_m_106]; exact am_in3 (i := 126) (by decide +kernel) rfl, by rw [am_m_106]; decide +kernel, by rw [am_m_106]; decide +kernel⟩
theorem am_mkr_0_280 : am_mkP (0, 280, 110, 3, 0, 0) := ⟨am_mP_110, by rw [am_m_110]; exact am_in3 (i := 144) (by decide +kernel) rfl, by rw [am_m_110]; exact am_in3 (i := 146) (by decide +kernel) rfl, by rw [am_m_110]; exact am_inP (q := (⟨"ThingsThrown", "refusalOfChances", "(II)I"⟩, 13)) (am_inP2 (i := 4) (by decide +kernel)) rfl, by rw [am_m_110]; decide +kernel, by rw [am_m_110]; decide +kernel⟩
theorem am_mkr_0_283 : am_mkP (0, 283, 111, 4, 1, 0) := ⟨am_mP_111, by rw [am_m_111]; exact am_in3 (i := 148) (by decide +kernel) rfl, by rw [am_m_111]; exact am_in3 (i := 149) (by decide +kernel) rfl, by rw [am_m_111]; exact am_in3 (i := 150) (by decide +kernel) rfl, by rw [am_m_111]; decide +kernel, by rw [am_m_111]; decide +kernel⟩
theorem am_mkr_0_287 : am_mkP (0, 287, 113, 1, 0, 1) := ⟨am_mP_113, by rw [am_m_113]; exact am_in3 (i := 164) (by decide +kernel) rfl, by rw [am_m_113]; exact am_in3 (i := 159) (by decide +kernel) rfl, by rw [am_m_113]; decide +kernel⟩
theorem am_mkr_0_291 : am_mkP (0, 291, 115, 4, 1, 0) := ⟨am_mP_115, by rw [am_m_115]; exact am_in3 (i := 169) (by decide +kernel) rfl, by rw [am_m_115]; exact am_in3 (i := 170) (by decide +kernel) rfl, by rw [am_m_115]; exact am_in3 (i := 171) (by decide +kernel) rfl, by rw [am_m_115]; decide +kernel, by rw [am_m_115]; decide +kernel⟩
theorem am_mkr_0_299 : am_mkP (0, 299, 117, 2, 0, 0) := ⟨am_mP_117, by rw [am_m_117]; exact am_in3 (i := 180) (by decide +kernel) rfl, by rw [am_m_117]; exact am_in3 (i := 182) (by decide +kernel) rfl, by rw [am_m_117]; exact am_inP (q := (⟨"ThingsThrown", "enterByLot", "(I)V"⟩, 13)) (am_inP2 (i := 6) (by decide +kernel)) rfl, by rw [am_m_117]; decide +kernel, by rw [am_m_117]; decide +kernel⟩
theorem am_mkr_0_305 : am_mkP (0, 305, 108, 2, 6, 0) := ⟨am_mP_108, by rw [am_m_108]; exact am_in3 (i := 204) (by decide +kernel) rfl, by rw [am_m_108]; exact am_in3 (i := 133) (by decide +kernel) rfl, by rw [am_m_108]; exact am_in3 (i := 134) (by decide +kernel) rfl, by rw [am_m_108]; decide +kernel, by rw [am_m_108]; decide +kernel⟩
theorem am_mkr_0_308 : am_mkP (0, 308, 123, 1, 2, 0) := ⟨am_mP_123, by rw [am_m_123]; exact am_in3 (i := 205) (by decide +kernel) rfl, by rw [am_m_123]; exact am_in3 (i := 206) (by decide +kernel) rfl, by rw [am_m_123]; exact am_in3 (i := 207) (by decide +kernel) rfl, by rw [am_m_123]; decide +kernel, by rw [am_m_123]; decide +kernel⟩
theorem am_mkr_0_310 : am_mkP (0, 310, 124, 2, 6, 0) := ⟨am_mP_124, by rw [am_m_124]; exact am_in3 (i := 209) (by decide +kernel) rfl, by rw [am_m_124]; exact am_in3 (i := 210) (by decide +kernel) rfl, by rw [am_m_124]; exact am_in3 (i := 211) (by decide +kernel) rfl, by rw [am_m_124]; decide +kernel, by rw [am_m_124]; decide +kernel⟩
theorem am_mkr_0_313 : am_mkP (0, 313, 125, 1, 0, 1) := ⟨am_mP_125, by rw [am_m_125]; exact am_in3 (i := 214) (by decide +kernel) rfl, by rw [am_m_125]; exact am_in3 (i := 215) (by decide +kernel) rfl, by rw [am_m_125]; decide +kernel⟩
theorem am_mkr_0_317 : am_mkP (0, 317, 126, 1, 0, 0) := ⟨am_mP_126, by rw [am_m_126]; exact am_in3 (i := 217) (by decide +kernel) rfl, by rw [am_m_126]; exact am_in3 (i := 219) (by decide +kernel) rfl, by rw [am_m_126]; exact am_inP (q := (⟨"ThingsThrown", "skiesKept", "()I"⟩, 13)) (am_inP2 (i := 8) (by decide +kernel)) rfl, by rw [am_m_126]; decide +kernel, by rw [am_m_126]; decide +kernel⟩
theorem am_mkr_0_324 : am_mkP (0, 324, 122, 2, 0, 0) := ⟨am_mP_122, by rw [am_m_122]; exact am_in3 (i := 235) (by decide +kernel) rfl, by rw [am_m_122]; exact am_in3 (i := 201) (by decide +kernel) rfl, by rw [am_m_122]; exact am_in3 (i := 202) (by decide +kernel) rfl, by rw [am_m_122]; decide +kernel, by rw [am_m_122]; decide +kernel⟩
theorem am_mkr_0_327 : am_mkP (0, 327, 130, 2, 0, 1) := ⟨am_mP_130, by rw [am_m_130]; exact am_in3 (i := 236) (by decide +kernel) rfl, by rw [am_m_130]; exact am_in3 (i := 237) (by decide +kernel) rfl, by rw [am_m_130]; decide +kernel⟩
theorem am_mkr_0_332 : am_mkP (0, 332, 94, 2, 0, 1) := ⟨am_mP_94, by rw [am_m_94]; exact am_in3 (i := 81) (by decide +kernel) rfl, by rw [am_m_94]; exact am_in3 (i := 82) (by decide +kernel) rfl, by rw [am_m_94]; decide +kernel⟩
theorem am_mkr_0_336 : am_mkP (0, 336, 42, 1, 0, 1) := ⟨am_mP_42, by rw [am_m_42]; exact am_in2 (i := 93) (by decide +kernel) rfl, by rw [am_m_42]; exact am_in2 (i := 94) (by decide +kernel) rfl, by rw [am_m_42]; decide +kernel⟩
theorem am_mkr_0_342 : am_mkP (0, 342, 57, 3, 6, 0) := ⟨am_mP_57, by rw [am_m_57]; exact am_in2 (i := 157) (by decide +kernel) rfl, by rw [am_m_57]; exact am_in2 (i := 158) (by decide +kernel) rfl, by rw [am_m_57]; exact am_in2 (i := 159) (by decide +kernel) rfl, by rw [am_m_57]; decide +kernel, by rw [am_m_57]; decide +kernel⟩
theorem am_mkr_0_345 : am_mkP (0, 345, 59, 4, 2, 0) := ⟨am_mP_59, by rw [am_m_59]; exact am_in2 (i := 167) (by decide +kernel) rfl, by rw [am_m_59]; exact am_in2 (i := 168) (by decide +kernel) rfl, by rw [am_m_59]; exact am_in2 (i := 169) (by decide +kernel) rfl, by rw [am_m_59]; decide +kernel, by rw [am_m_59]; decide +kernel⟩
theorem am_mkr_0_349 : am_mkP (0, 349, 58, 3, 6, 0) := ⟨am_mP_58, by rw [am_m_58]; exact am_in2 (i := 189) (by decide +kernel) rfl, by rw [am_m_58]; exact am_in2 (i := 163) (by decide +kernel) rfl, by rw [am_m_58]; exact am_in2 (i := 164) (by decide +kernel) rfl, by rw [am_m_58]; decide +kernel, by rw [am_m_58]; decide +kernel⟩
theorem am_mkr_0_352 : am_mkP (0, 352, 66, 3, 0, 1) := ⟨am_mP_66, by rw [am_m_66]; exact am_in2 (i := 198) (by decide +kernel) rfl, by rw [am_m_66]; exact am_in2 (i := 199) (by decide +kernel) rfl, by rw [am_m_66]; decide +kernel⟩
theorem am_mkr_0_355 : am_mkP (0, 355, 118, 2, 0, 0) := ⟨am_mP_118, by rw [am_m_118]; exact am_in3 (i := 184) (by decide +kernel) rfl, by rw [am_m_118]; exact am_in3 (i := 186) (by decide +kernel) rfl, by rw [am_m_118]; exact am_inP (q := (⟨"ThingsThrown", "enterThrowFrom", "(I)V"⟩, 13)) (am_inP2 (i := 7) (by decide +kernel)) rfl, by rw [am_m_118]; decide +kernel, by rw [am_m_118]; decide +kernel⟩
theorem am_mkr_1_3 : am_mkP (1, 3, 9000, 0, 0, 3) := am_in1 (i := 118) (by decide +kernel) rfl
theorem am_mkr_1_17 : am_mkP (1, 17, 112, 6, 1, 0) := ⟨am_mP_112, by rw [am_m_112]; exact am_in3 (i := 152) (by decide +kernel) rfl, by rw [am_m_112]; exact am_in3 (i := 154) (by decide +kernel) rfl, by rw [am_m_112]; exact am_inP (q := (⟨"ThingsThrown$Chances", "weightFrom", "(ILThingsThrown$Sheet;IIZ)J"⟩, 1)) (am_inP2 (i := 5) (by decide +kernel)) rfl, by rw [am_m_112]; decide +kernel, by rw [am_m_112]; decide +kernel⟩
theorem am_mkr_1_27 : am_mkP (1, 27, 79, 2, 6, 0) := ⟨am_mP_79, by rw [am_m_79]; exact am_in3 (i := 156) (by decide +kernel) rfl, by rw [am_m_79]; exact am_in3 (i := 12) (by decide +kernel) rfl, by rw [am_m_79]; exact am_in3 (i := 13) (by decide +kernel) rfl, by rw [am_m_79]; decide +kernel, by rw [am_m_79]; decide +kernel⟩
theorem am_mkr_1_37 : am_mkP (1, 37, 9003, 0, 0, 7) := am_in3 (i := 157) (by decide +kernel) rfl
theorem am_mkr_1_43 : am_mkP (1, 43, 113, 1, 0, 1) := ⟨am_mP_113, by rw [am_m_113]; exact am_in3 (i := 158) (by decide +kernel) rfl, by rw [am_m_113]; exact am_in3 (i := 159) (by decide +kernel) rfl, by rw [am_m_113]; decide +kernel⟩
theorem am_mkr_1_47 : am_mkP (1, 47, 52, 3, 6, 0) := ⟨am_mP_52, by rw [am_m_52]; exact am_in3 (i := 162) (by decide +kernel) rfl, by rw [am_m_52]; exact am_in2 (i := 136) (by decide +kernel) rfl, by rw [am_m_52]; exact am_in2 (i := 137) (by decide +kernel) rfl, by rw [am_m_52]; decide +kernel, by rw [am_m_52]; decide +kernel⟩
theorem am_mkr_1_51 : am_mkP (1, 51, 57, 3, 6, 0) := ⟨am_mP_57, by rw [am_m_57]; exact am_in3 (i := 163) (by decide +kernel) rfl, by rw [am_m_57]; exact am_in2 (i := 158) (by decide +kernel) rfl, by rw [am_m_57]; exact am_in2 (i := 159) (by decide +kernel) rfl, by rw [am_m_57]; decide +kernel, by rw [am_m_57]; decide +kernel⟩
theorem am_mkr_2_3 : am_mkP (2, 3, 9000, 0, 0, 3) := am_in1 (i := 63) (by decide +kernel) rfl
theorem am_mkr_2_34 : am_mkP (2, 34, 60, 1, 2, 0) := ⟨am_mP_60, by rw [am_m_60]; exact am_in2 (i := 171) (by decide +kernel) rfl, by rw [am_m_60]; exact am_in2 (i := 172) (by decide +kernel) rfl, by rw [am_m_60]; exact am_in2 (i := 173) (by decide +kernel) rfl, by rw [am_m_60]; decide +kernel, by rw [am_m_60]; decide +kernel⟩
theorem am_mkr_2_38 : am_mkP (2, 38, 55, 1, 2, 0) := ⟨am_mP_55, by rw [am_m_55]; exact am_in2 (i := 175) (by decide +kernel) rfl, by rw [am_m_55]; exact am_in2 (i := 149) (by decide +kernel) rfl, by rw [am_m_55]; exact am_in2 (i := 150) (by decide +kernel) rfl, by rw [am_m_55]; decide +kernel, by rw [am_m_55]; decide +kernel⟩
theorem am_mkr_2_41 : am_mkP (2, 41, 9001, 0, 0, 4) := am_in2 (i := 220) (by decide +kernel) rfl
theorem am_mkr_3_3 : am_mkP (3, 3, 9000, 0, 0, 3) := am_in1 (i := 96) (by decide +kernel) rfl
theorem am_mkr_3_31 : am_mkP (3, 31, 79, 2, 6, 0) := ⟨am_mP_79, by rw [am_m_79]; exact am_in3 (i := 11) (by decide +kernel) rfl, by rw [am_m_79]; exact am_in3 (i := 12) (by decide +kernel) rfl, by rw [am_m_79]; exact am_in3 (i := 13) (by decide +kernel) rfl, by rw [am_m_79]; decide +kernel, by rw [am_m_79]; decide +kernel⟩
theorem am_mkr_3_40 : am_mkP (3, 40, 52, 3, 6, 0) := ⟨am_mP_52, by rw [am_m_52]; exact am_in3 (i := 20) (by decide +kernel) rfl, by rw [am_m_52]; exact am_in2 (i := 136) (by decide +kernel) rfl, by rw [am_m_52]; exact am_in2 (i := 137) (by decide +kernel) rfl, by rw [am_m_52]; decide +kernel, by rw [am_m_52]; decide +kernel⟩
theorem am_mkr_3_44 : am_mkP (3, 44, 57, 3, 6, 0) := ⟨am_mP_57, by rw [am_m_57]; exact am_in3 (i := 21) (by decide +kernel) rfl, by rw [am_m_57]; exact am_in2 (i := 158) (by decide +kernel) rfl, by rw [am_m_57]; exact am_in2 (i := 159) (by decide +kernel) rfl, by rw [am_m_57]; decide +kernel, by rw [am_m_57]; decide +kernel⟩
theorem am_mkr_3_48 : am_mkP (3, 48, 78, 3, 3, 0) := ⟨am_mP_78, by rw [am_m_78]; exact am_in3 (i := 30) (by decide +kernel) rfl, by rw [am_m_78]; exact am_in3 (i := 8) (by decide +kernel) rfl, by rw [am_m_78]; exact am_in3 (i := 9) (by decide +kernel) rfl, by rw [am_m_78]; decide +kernel, by rw [am_m_78]; decide +kernel⟩
theorem am_mkr_3_52 : am_mkP (3, 52, 83, 3, 3, 0) := ⟨am_mP_83, by rw [am_m_83]; exact am_in3 (i := 31) (by decide +kernel) rfl, by rw [am_m_83]; exact am_in3 (i := 33) (by decide +kernel) rfl, by rw [am_m_83]; exact am_inP (q := (⟨"ThingsThrown$Outlook", "comesToDues", "(II)Z"⟩, 4)) (am_inP1 (i := 13) (by decide +kernel)) rfl, by rw [am_m_83]; decide +kernel, by rw [am_m_83]; decide +kernel⟩
theorem am_mkr_3_55 : am_mkP (3, 55, 80, 2, 6, 0) := ⟨am_mP_80, by rw [am_m_80]; exact am_in3 (i := 35) (by decide +kernel) rfl, by rw [am_m_80]; exact am_in3 (i := 16) (by decide +kernel) rfl, by rw [am_m_80]; exact am_in3 (i := 17) (by decide +kernel) rfl, by rw [am_m_80]; decide +kernel, by rw [am_m_80]; decide +kernel⟩
theorem am_mkr_3_58 : am_mkP (3, 58, 58, 3, 6, 0) := ⟨am_mP_58, by rw [am_m_58]; exact am_in3 (i := 36) (by decide +kernel) rfl, by rw [am_m_58]; exact am_in2 (i := 163) (by decide +kernel) rfl, by rw [am_m_58]; exact am_in2 (i := 164) (by decide +kernel) rfl, by rw [am_m_58]; decide +kernel, by rw [am_m_58]; decide +kernel⟩
theorem am_mkr_3_61 : am_mkP (3, 61, 32, 2, 6, 0) := ⟨am_mP_32, by rw [am_m_32]; exact am_in3 (i := 63) (by decide +kernel) rfl, by rw [am_m_32]; exact am_in2 (i := 54) (by decide +kernel) rfl, by rw [am_m_32]; exact am_in2 (i := 55) (by decide +kernel) rfl, by rw [am_m_32]; decide +kernel, by rw [am_m_32]; decide +kernel⟩
theorem am_mkr_3_64 : am_mkP (3, 64, 87, 1, 0, 1) := ⟨am_mP_87, by rw [am_m_87]; exact am_in3 (i := 49) (by decide +kernel) rfl, by rw [am_m_87]; exact am_in3 (i := 50) (by decide +kernel) rfl, by rw [am_m_87]; decide +kernel⟩
theorem am_mkr_3_70 : am_mkP (3, 70, 88, 5, 3, 0) := ⟨am_mP_88, by rw [am_m_88]; exact am_in3 (i := 55) (by decide +kernel) rfl, by rw [am_m_88]; exact am_in3 (i := 57) (by decide +kernel) rfl, by rw [am_m_88]; exact am_inP (q := (⟨"ThingsThrown$Outlook", "leadsTo", "(IIII)Z"⟩, 4)) (am_inP1 (i := 14) (by decide +kernel)) rfl, by rw [am_m_88]; decide +kernel, by rw [am_m_88]; decide +kernel⟩
theorem am_mkr_3_74 : am_mkP (3, 74, 89, 3, 3, 0) := ⟨am_mP_89, by rw [am_m_89]; exact am_in3 (i := 59) (by decide +kernel) rfl, by rw [am_m_89]; exact am_in3 (i := 61) (by decide +kernel) rfl, by rw [am_m_89]; exact am_inP (q := (⟨"ThingsThrown$Outlook", "comesToSky", "(II)Z"⟩, 4)) (am_inP1 (i := 15) (by decide +kernel)) rfl, by rw [am_m_89]; decide +kernel, by rw [am_m_89]; decide +kernel⟩
theorem am_mkr_3_77 : am_mkP (3, 77, 75, 2, 6, 0) := ⟨am_mP_75, by rw [am_m_75]; exact am_in3 (i := 64) (by decide +kernel) rfl, by rw [am_m_75]; exact am_in2 (i := 236) (by decide +kernel) rfl, by rw [am_m_75]; exact am_in2 (i := 237) (by decide +kernel) rfl, by rw [am_m_75]; decide +kernel, by rw [am_m_75]; decide +kernel⟩
theorem am_mkr_3_80 : am_mkP (3, 80, 92, 4, 3, 0) := ⟨am_mP_92, by rw [am_m_92]; exact am_in3 (i := 73) (by decide +kernel) rfl, by rw [am_m_92]; exact am_in3 (i := 75) (by decide +kernel) rfl, by rw [am_m_92]; exact am_inP (q := (⟨"ThingsThrown$Outlook", "waysTo", "(III)J"⟩, 4)) (am_inP2 (i := 0) (by decide +kernel)) rfl, by rw [am_m_92]; decide +kernel, by rw [am_m_92]; decide +kernel⟩
theorem am_mkr_3_84 : am_mkP (3, 84, 107, 3, 3, 0) := ⟨am_mP_107, by rw [am_m_107]; exact am_in3 (i := 128) (by decide +kernel) rfl, by rw [am_m_107]; exact am_in3 (i := 130) (by decide +kernel) rfl, by rw [am_m_107]; exact am_inP (q := (⟨"ThingsThrown$Outlook", "bestFrom", "(II)I"⟩, 4)) (am_inP2 (i := 3) (by decide +kernel)) rfl, by rw [am_m_107]; decide +kernel, by rw [am_m_107]; decide +kernel⟩
theorem am_mkr_3_87 : am_mkP (3, 87, 108, 2, 6, 0) := ⟨am_mP_108, by rw [am_m_108]; exact am_in3 (i := 132) (by decide +kernel) rfl, by rw [am_m_108]; exact am_in3 (i := 133) (by decide +kernel) rfl, by rw [am_m_108]; exact am_in3 (i := 134) (by decide +kernel) rfl, by rw [am_m_108]; decide +kernel, by rw [am_m_108]; decide +kernel⟩
theorem am_mkr_3_92 : am_mkP (3, 92, 9002, 0, 0, 6) := am_in3 (i := 138) (by decide +kernel) rfl
theorem am_mkr_3_97 : am_mkP (3, 97, 9003, 0, 0, 7) := am_in3 (i := 139) (by decide +kernel) rfl
theorem am_mkr_4_1 : am_mkP (4, 1, 9000, 0, 0, 3) := am_in1 (i := 127) (by decide +kernel) rfl
theorem am_mkr_4_17 : am_mkP (4, 17, 9003, 0, 0, 7) := am_in1 (i := 204) (by decide +kernel) rfl
theorem am_mkr_4_23 : am_mkP (4, 23, 9002, 0, 0, 6) := am_in1 (i := 207) (by decide +kernel) rfl
theorem am_mkr_5_3 : am_mkP (5, 3, 9000, 0, 0, 3) := am_in1 (i := 28) (by decide +kernel) rfl
theorem am_mkr_5_11 : am_mkP (5, 11, 2, 1, 6, 5) := ⟨am_mP_2, by rw [am_m_2]; decide +kernel, by rw [am_m_2]; exact am_in1 (i := 32) (by decide +kernel) rfl, by rw [am_m_2]; decide +kernel, by rw [am_m_2], by rw [am_m_2]⟩
theorem am_mkr_5_22 : am_mkP (5, 22, 29, 1, 6, 0) := ⟨am_mP_29, by rw [am_m_29]; exact am_in2 (i := 40) (by decide +kernel) rfl, by rw [am_m_29]; exact am_in2 (i := 41) (by decide +kernel) rfl, by rw [am_m_29]; exact am_in2 (i := 42) (by decide +kernel) rfl, by rw [am_m_29]; decide +kernel, by rw [am_m_29]; decide +kernel⟩
theorem am_mkr_5_34 : am_mkP (5, 34, 30, 1, 0, 1) := ⟨am_mP_30, by rw [am_m_30]; exact am_in2 (i := 44) (by decide +kernel) rfl, by rw [am_m_30]; exact am_in2 (i := 45) (by decide +kernel) rfl, by rw [am_m_30]; decide +kernel⟩
theorem am_mkr_5_41 : am_mkP (5, 41, 31, 2, 5, 0) := ⟨am_mP_31, by rw [am_m_31]; exact am_in2 (i := 49) (by decide +kernel) rfl, by rw [am_m_31]; exact am_in2 (i := 51) (by decide +kernel) rfl, by rw [am_m_31]; exact am_inP (q := (⟨"ThingsThrown$Telling", "isFreeFigure", "(I)Z"⟩, 2)) (am_inP1 (i := 5) (by decide +kernel)) rfl, by rw [am_m_31]; decide +kernel, by rw [am_m_31]; decide +kernel⟩
theorem am_mkr_5_45 : am_mkP (5, 45, 34, 3, 0, 1) := ⟨am_mP_34, by rw [am_m_34]; exact am_in2 (i := 60) (by decide +kernel) rfl, by rw [am_m_34]; exact am_in2 (i := 61) (by decide +kernel) rfl, by rw [am_m_34]; decide +kernel⟩
theorem am_mkr_5_49 : am_mkP (5, 49, 35, 2, 6, 0) := ⟨am_mP_35, by rw [am_m_35]; exact am_in2 (i := 63) (by decide +kernel) rfl, by rw [am_m_35]; exact am_in2 (i := 64) (by decide +kernel) rfl, by rw [am_m_35]; exact am_in2 (i := 65) (by decide +kernel) rfl, by rw [am_m_35]; decide +kernel, by rw [am_m_35]; decide +kernel⟩
theorem am_mkr_5_53 : am_mkP (5, 53, 32, 2, 6, 0) := ⟨am_mP_32, by rw [am_m_32]; exact am_in2 (i := 53) (by decide +kernel) rfl, by rw [am_m_32]; exact am_in2 (i := 54) (by decide +kernel) rfl, by rw [am_m_32]; exact am_in2 (i := 55) (by decide +kernel) rfl, by rw [am_m_32]; decide +kernel, by rw [am_m_32]; decide +kernel⟩
theorem am_mkr_6_3 : am_mkP (6, 3, 9000, 0, 0, 3) := am_in1 (i := 34) (by decide +kernel) rfl
theorem am_mkr_6_19 : am_mkP (6, 19, 33, 2, 0, 1) := ⟨am_mP_33, by rw [am_m_33]; exact am_in2 (i := 57) (by decide +kernel) rfl, by rw [am_m_33]; exact am_in2 (i := 58) (by decide +kernel) rfl, by rw [am_m_33]; decide +kernel⟩
theorem am_mkr_6_23 : am_mkP (6, 23, 34, 3, 0, 1) := ⟨am_mP_34, by rw [am_m_34]; exact am_in2 (i := 161) (by decide +kernel) rfl, by rw [am_m_34]; exact am_in2 (i := 61) (by decide +kernel) rfl, by rw [am_m_34]; decide +kernel⟩
theorem am_mkr_6_27 : am_mkP (6, 27, 9001, 0, 0, 4) := am_in2 (i := 75) (by decide +kernel) rfl
theorem am_mkr_6_33 : am_mkP (6, 33, 44, 2, 0, 1) := ⟨am_mP_44, by rw [am_m_44]; exact am_in3 (i := 213) (by decide +kernel) rfl, by rw [am_m_44]; exact am_in2 (i := 105) (by decide +kernel) rfl, by rw [am_m_44]; decide +kernel⟩
theorem am_mkr_6_39 : am_mkP (6, 39, 9003, 0, 0, 7) := am_in3 (i := 19) (by decide +kernel) rfl
theorem am_mkr_6_45 : am_mkP (6, 45, 80, 2, 6, 0) := ⟨am_mP_80, by rw [am_m_80]; exact am_in3 (i := 15) (by decide +kernel) rfl, by rw [am_m_80]; exact am_in3 (i := 16) (by decide +kernel) rfl, by rw [am_m_80]; exact am_in3 (i := 17) (by decide +kernel) rfl, by rw [am_m_80]; decide +kernel, by rw [am_m_80]; decide +kernel⟩
theorem am_mkr_6_49 : am_mkP (6, 49, 58, 3, 6, 0) := ⟨am_mP_58, by rw [am_m_58]; exact am_in2 (i := 162) (by decide +kernel) rfl, by rw [am_m_58]; exact am_in2 (i := 163) (by decide +kernel) rfl, by rw [am_m_58]; exact am_in2 (i := 164) (by decide +kernel) rfl, by rw [am_m_58]; decide +kernel, by rw [am_m_58]; decide +kernel⟩
theorem am_mkr_6_52 : am_mkP (6, 52, 53, 2, 6, 0) := ⟨am_mP_53, by rw [am_m_53]; exact am_in2 (i := 139) (by decide +kernel) rfl, by rw [am_m_53]; exact am_in2 (i := 140) (by decide +kernel) rfl, by rw [am_m_53]; exact am_in2 (i := 141) (by decide +kernel) rfl, by rw [am_m_53]; decide +kernel, by rw [am_m_53]; decide +kernel⟩
theorem am_mkr_6_55 : am_mkP (6, 55, 32, 2, 6, 0) := ⟨am_mP_32, by rw [am_m_32]; exact am_in2 (i := 143) (by decide +kernel) rfl, by rw [am_m_32]; exact am_in2 (i := 54) (by decide +kernel) rfl, by rw [am_m_32]; exact am_in2 (i := 55) (by decide +kernel) rfl, by rw [am_m_32]; decide +kernel, by rw [am_m_32]; decide +kernel⟩
theorem am_mkr_6_58 : am_mkP (6, 58, 46, 2, 0, 1) := ⟨am_mP_46, by rw [am_m_46]; exact am_in2 (i := 144) (by decide +kernel) rfl, by rw [am_m_46]; exact am_in2 (i := 113) (by decide +kernel) rfl, by rw [am_m_46]; decide +kernel⟩
theorem am_mkr_6_61 : am_mkP (6, 61, 54, 2, 0, 1) := ⟨am_mP_54, by rw [am_m_54]; exact am_in2 (i := 145) (by decide +kernel) rfl, by rw [am_m_54]; exact am_in2 (i := 146) (by decide +kernel) rfl, by rw [am_m_54]; decide +kernel⟩
theorem am_mkr_7_1 : am_mkP (7, 1, 9000, 0, 0, 3) := am_in4 (i := 4) (by decide +kernel) rfl
theorem am_mkr_7_55 : am_mkP (7, 55, 134, 3, 0, 1) := ⟨am_mP_134, by rw [am_m_134]; exact am_in4 (i := 65) (by decide +kernel) rfl, by rw [am_m_134]; exact am_in4 (i := 66) (by decide +kernel) rfl, by rw [am_m_134]; decide +kernel⟩
theorem am_mkr_7_59 : am_mkP (7, 59, 133, 1, 0, 1) := ⟨am_mP_133, by rw [am_m_133]; exact am_in4 (i := 62) (by decide +kernel) rfl, by rw [am_m_133]; exact am_in4 (i := 63) (by decide +kernel) rfl, by rw [am_m_133]; decide +kernel⟩
theorem am_mkr_7_63 : am_mkP (7, 63, 135, 2, 7, 0) := ⟨am_mP_135, by rw [am_m_135]; exact am_in4 (i := 68) (by decide +kernel) rfl, by rw [am_m_135]; exact am_in4 (i := 70) (by decide +kernel) rfl, by rw [am_m_135]; exact am_inP (q := (⟨"ThingsThrownModel", "found", "(I)I"⟩, 17)) (am_inP2 (i := 9) (by decide +kernel)) rfl, by rw [am_m_135]; decide +kernel, by rw [am_m_135]; decide +kernel⟩
theorem am_mkr_7_67 : am_mkP (7, 67, 137, 3, 7, 0) := ⟨am_mP_137, by rw [am_m_137]; exact am_in4 (i := 76) (by decide +kernel) rfl, by rw [am_m_137]; exact am_in4 (i := 78) (by decide +kernel) rfl, by rw [am_m_137]; exact am_inP (q := (⟨"ThingsThrownModel", "wrongPlace", "(II)I"⟩, 17)) (am_inP2 (i := 10) (by decide +kernel)) rfl, by rw [am_m_137]; decide +kernel, by rw [am_m_137]; decide +kernel⟩
theorem am_mkr_7_71 : am_mkP (7, 71, 138, 2, 7, 0) := ⟨am_mP_138, by rw [am_m_138]; exact am_in4 (i := 80) (by decide +kernel) rfl, by rw [am_m_138]; exact am_in4 (i := 82) (by decide +kernel) rfl, by rw [am_m_138]; exact am_inP (q := (⟨"ThingsThrownModel", "tell", "(I)I"⟩, 17)) (am_inP2 (i := 11) (by decide +kernel)) rfl, by rw [am_m_138]; decide +kernel, by rw [am_m_138]; decide +kernel⟩
theorem am_mkr_7_74 : am_mkP (7, 74, 142, 4, 7, 0) := ⟨am_mP_142, by rw [am_m_142]; exact am_in4 (i := 96) (by decide +kernel) rfl, by rw [am_m_142]; exact am_in4 (i := 98) (by decide +kernel) rfl, by rw [am_m_142]; exact am_inP (q := (⟨"ThingsThrownModel", "isPart", "(III)Z"⟩, 17)) (am_inP2 (i := 12) (by decide +kernel)) rfl, by rw [am_m_142]; decide +kernel, by rw [am_m_142]; decide +kernel⟩
theorem am_mkr_7_77 : am_mkP (7, 77, 145, 1, 0, 1) := ⟨am_mP_145, by rw [am_m_145]; exact am_in4 (i := 108) (by decide +kernel) rfl, by rw [am_m_145]; exact am_in4 (i := 109) (by decide +kernel) rfl, by rw [am_m_145]; decide +kernel⟩
theorem am_mkr_7_83 : am_mkP (7, 83, 149, 3, 7, 0) := ⟨am_mP_149, by rw [am_m_149]; exact am_in4 (i := 123) (by decide +kernel) rfl, by rw [am_m_149]; exact am_in4 (i := 125) (by decide +kernel) rfl, by rw [am_m_149]; exact am_inP (q := (⟨"ThingsThrownModel", "byteAt", "(II)I"⟩, 17)) (am_inP2 (i := 14) (by decide +kernel)) rfl, by rw [am_m_149]; decide +kernel, by rw [am_m_149]; decide +kernel⟩
theorem am_mkr_7_86 : am_mkP (7, 86, 150, 1, 0, 1) := ⟨am_mP_150, by rw [am_m_150]; exact am_in4 (i := 127) (by decide +kernel) rfl, by rw [am_m_150]; exact am_in4 (i := 128) (by decide +kernel) rfl, by rw [am_m_150]; decide +kernel⟩
theorem am_mkr_7_89 : am_mkP (7, 89, 151, 2, 7, 0) := ⟨am_mP_151, by rw [am_m_151]; exact am_in4 (i := 130) (by decide +kernel) rfl, by rw [am_m_151]; exact am_in4 (i := 132) (by decide +kernel) rfl, by rw [am_m_151]; exact am_inP (q := (⟨"ThingsThrownModel", "isDueRead", "(I)Z"⟩, 17)) (am_inP2 (i := 15) (by decide +kernel)) rfl, by rw [am_m_151]; decide +kernel, by rw [am_m_151]; decide +kernel⟩
theorem am_mkr_7_92 : am_mkP (7, 92, 148, 2, 7, 0) := ⟨am_mP_148, by rw [am_m_148]; exact am_in4 (i := 119) (by decide +kernel) rfl, by rw [am_m_148]; exact am_in4 (i := 121) (by decide +kernel) rfl, by rw [am_m_148]; exact am_inP (q := (⟨"ThingsThrownModel", "readText", "(I)I"⟩, 17)) (am_inP2 (i := 13) (by decide +kernel)) rfl, by rw [am_m_148]; decide +kernel, by rw [am_m_148]; decide +kernel⟩
theorem am_mkr_7_98 : am_mkP (7, 98, 156, 2, 0, 1) := ⟨am_mP_156, by rw [am_m_156]; exact am_in4 (i := 149) (by decide +kernel) rfl, by rw [am_m_156]; exact am_in4 (i := 150) (by decide +kernel) rfl, by rw [am_m_156]; decide +kernel⟩
theorem am_mkr_7_101 : am_mkP (7, 101, 154, 2, 7, 0) := ⟨am_mP_154, by rw [am_m_154]; exact am_in4 (i := 142) (by decide +kernel) rfl, by rw [am_m_154]; exact am_in4 (i := 144) (by decide +kernel) rfl, by rw [am_m_154]; exact am_inP (q := (⟨"ThingsThrownModel", "isThing", "(I)Z"⟩, 17)) (am_inP3 (i := 0) (by decide +kernel)) rfl, by rw [am_m_154]; decide +kernel, by rw [am_m_154]; decide +kernel⟩
theorem am_mkr_7_104 : am_mkP (7, 104, 155, 1, 0, 1) := ⟨am_mP_155, by rw [am_m_155]; exact am_in4 (i := 146) (by decide +kernel) rfl, by rw [am_m_155]; exact am_in4 (i := 147) (by decide +kernel) rfl, by rw [am_m_155]; decide +kernel⟩
theorem am_mkr_7_107 : am_mkP (7, 107, 158, 2, 0, 1) := ⟨am_mP_158, by rw [am_m_158]; exact am_in4 (i := 156) (by decide +kernel) rfl, by rw [am_m_158]; exact am_in4 (i := 157) (by decide +kernel) rfl, by rw [am_m_158]; decide +kernel⟩
theorem am_mkr_7_110 : am_mkP (7, 110, 159, 2, 7, 0) := ⟨am_mP_159, by rw [am_m_159]; exact am_in4 (i := 159) (by decide +kernel) rfl, by rw [am_m_159]; exact am_in4 (i := 161) (by decide +kernel) rfl, by rw [am_m_159]; exact am_inP (q := (⟨"ThingsThrownModel", "torchesAhead", "(I)I"⟩, 17)) (am_inP3 (i := 1) (by decide +kernel)) rfl, by rw [am_m_159]; decide +kernel, by rw [am_m_159]; decide +kernel⟩
theorem am_mkr_7_113 : am_mkP (7, 113, 160, 2, 7, 0) := ⟨am_mP_160, by rw [am_m_160]; exact am_in4 (i := 163) (by decide +kernel) rfl, by rw [am_m_160]; exact am_in4 (i := 165) (by decide +kernel) rfl, by rw [am_m_160]; exact am_inP (q := (⟨"ThingsThrownModel", "thingsBehind", "(I)I"⟩, 17)) (am_inP3 (i := 2) (by decide +kernel)) rfl, by rw [am_m_160]; decide +kernel, by rw [am_m_160]; decide +kernel⟩
theorem am_mkr_7_116 : am_mkP (7, 116, 164, 2, 7, 0) := ⟨am_mP_164, by rw [am_m_164]; exact am_in4 (i := 178) (by decide +kernel) rfl, by rw [am_m_164]; exact am_in4 (i := 180) (by decide +kernel) rfl, by rw [am_m_164]; exact am_inP (q := (⟨"ThingsThrownModel", "dueAt", "(I)I"⟩, 17)) (am_inP3 (i := 4) (by decide +kernel)) rfl, by rw [am_m_164]; decide +kernel, by rw [am_m_164]; decide +kernel⟩
theorem am_mkr_7_119 : am_mkP (7, 119, 165, 2, 7, 0) := ⟨am_mP_165, by rw [am_m_165]; exact am_in4 (i := 182) (by decide +kernel) rfl, by rw [am_m_165]; exact am_in4 (i := 184) (by decide +kernel) rfl, by rw [am_m_165]; exact am_inP (q := (⟨"ThingsThrownModel", "skyAt", "(I)I"⟩, 17)) (am_inP3 (i := 5) (by decide +kernel)) rfl, by rw [am_m_165]; decide +kernel, by rw [am_m_165]; decide +kernel⟩
theorem am_mkr_7_122 : am_mkP (7, 122, 166, 2, 0, 1) := ⟨am_mP_166, by rw [am_m_166]; exact am_in4 (i := 186) (by decide +kernel) rfl, by rw [am_m_166]; exact am_in4 (i := 187) (by decide +kernel) rfl, by rw [am_m_166]; decide +kernel⟩
theorem am_mkr_7_126 : am_mkP (7, 126, 163, 3, 7, 0) := ⟨am_mP_163, by rw [am_m_163]; exact am_in4 (i := 174) (by decide +kernel) rfl, by rw [am_m_163]; exact am_in4 (i := 176) (by decide +kernel) rfl, by rw [am_m_163]; exact am_inP (q := (⟨"ThingsThrownModel", "mayAt", "(II)Z"⟩, 17)) (am_inP3 (i := 3) (by decide +kernel)) rfl, by rw [am_m_163]; decide +kernel, by rw [am_m_163]; decide +kernel⟩
theorem am_mkr_7_129 : am_mkP (7, 129, 170, 2, 7, 0) := ⟨am_mP_170, by rw [am_m_170]; exact am_in4 (i := 201) (by decide +kernel) rfl, by rw [am_m_170]; exact am_in4 (i := 203) (by decide +kernel) rfl, by rw [am_m_170]; exact am_inP (q := (⟨"ThingsThrownModel", "later", "(I)V"⟩, 17)) (am_inP3 (i := 9) (by decide +kernel)) rfl, by rw [am_m_170]; decide +kernel, by rw [am_m_170]; decide +kernel⟩
theorem am_mkr_7_133 : am_mkP (7, 133, 168, 4, 7, 0) := ⟨am_mP_168, by rw [am_m_168]; exact am_in4 (i := 193) (by decide +kernel) rfl, by rw [am_m_168]; exact am_in4 (i := 195) (by decide +kernel) rfl, by rw [am_m_168]; exact am_inP (q := (⟨"ThingsThrownModel", "copyRow", "(III)V"⟩, 17)) (am_inP3 (i := 7) (by decide +kernel)) rfl, by rw [am_m_168]; decide +kernel, by rw [am_m_168]; decide +kernel⟩
theorem am_mkr_7_137 : am_mkP (7, 137, 162, 1, 0, 1) := ⟨am_mP_162, by rw [am_m_162]; exact am_in4 (i := 171) (by decide +kernel) rfl, by rw [am_m_162]; exact am_in4 (i := 172) (by decide +kernel) rfl, by rw [am_m_162]; decide +kernel⟩
theorem am_mkr_7_140 : am_mkP (7, 140, 167, 1, 7, 0) := ⟨am_mP_167, by rw [am_m_167]; exact am_in4 (i := 189) (by decide +kernel) rfl, by rw [am_m_167]; exact am_in4 (i := 191) (by decide +kernel) rfl, by rw [am_m_167]; exact am_inP (q := (⟨"ThingsThrownModel", "remember", "()V"⟩, 17)) (am_inP3 (i := 6) (by decide +kernel)) rfl, by rw [am_m_167]; decide +kernel, by rw [am_m_167]; decide +kernel⟩
theorem am_mkr_7_143 : am_mkP (7, 143, 169, 3, 7, 0) := ⟨am_mP_169, by rw [am_m_169]; exact am_in4 (i := 197) (by decide +kernel) rfl, by rw [am_m_169]; exact am_in4 (i := 199) (by decide +kernel) rfl, by rw [am_m_169]; exact am_inP (q := (⟨"ThingsThrownModel", "tossAt", "(II)V"⟩, 17)) (am_inP3 (i := 8) (by decide +kernel)) rfl, by rw [am_m_169]; decide +kernel, by rw [am_m_169]; decide +kernel⟩
theorem am_mkr_7_147 : am_mkP (7, 147, 173, 3, 7, 0) := ⟨am_mP_173, by rw [am_m_173]; exact am_in4 (i := 213) (by decide +kernel) rfl, by rw [am_m_173]; exact am_in4 (i := 215) (by decide +kernel) rfl, by rw [am_m_173]; exact am_inP (q := (⟨"ThingsThrownModel", "swap", "(II)V"⟩, 17)) (am_inP3 (i := 10) (by decide +kernel)) rfl, by rw [am_m_173]; decide +kernel, by rw [am_m_173]; decide +kernel⟩
theorem am_mkr_7_150 : am_mkP (7, 150, 179, 2, 7, 0) := ⟨am_mP_179, by rw [am_m_179]; exact am_in4 (i := 237) (by decide +kernel) rfl, by rw [am_m_179]; exact am_in4 (i := 239) (by decide +kernel) rfl, by rw [am_m_179]; exact am_inP (q := (⟨"ThingsThrownModel", "heightsAt", "(I)I"⟩, 17)) (am_inP3 (i := 11) (by decide +kernel)) rfl, by rw [am_m_179]; decide +kernel, by rw [am_m_179]; decide +kernel⟩
theorem am_mkr_7_153 : am_mkP (7, 153, 181, 4, 7, 0) := ⟨am_mP_181, by rw [am_m_181]; exact am_in5 (i := 5) (by decide +kernel) rfl, by rw [am_m_181]; exact am_in5 (i := 7) (by decide +kernel) rfl, by rw [am_m_181]; exact am_inP (q := (⟨"ThingsThrownModel", "wrongHeights", "(III)I"⟩, 17)) (am_inP3 (i := 12) (by decide +kernel)) rfl, by rw [am_m_181]; decide +kernel, by rw [am_m_181]; decide +kernel⟩
theorem am_mkr_7_157 : am_mkP (7, 157, 182, 1, 7, 0) := ⟨am_mP_182, by rw [am_m_182]; exact am_in5 (i := 9) (by decide +kernel) rfl, by rw [am_m_182]; exact am_in5 (i := 11) (by decide +kernel) rfl, by rw [am_m_182]; exact am_inP (q := (⟨"ThingsThrownModel", "beginTry", "()V"⟩, 17)) (am_inP3 (i := 13) (by decide +kernel)) rfl, by rw [am_m_182]; decide +kernel, by rw [am_m_182]; decide +kernel⟩
theorem am_mkr_7_160 : am_mkP (7, 160, 183, 2, 7, 0) := ⟨am_mP_183, by rw [am_m_183]; exact am_in5 (i := 13) (by decide +kernel) rfl, by rw [am_m_183]; exact am_in5 (i := 15) (by decide +kernel) rfl, by rw [am_m_183]; exact am_inP (q := (⟨"ThingsThrownModel", "restsAt", "(I)V"⟩, 17)) (am_inP3 (i := 14) (by decide +kernel)) rfl, by rw [am_m_183]; decide +kernel, by rw [am_m_183]; decide +kernel⟩
theorem am_mkr_7_163 : am_mkP (7, 163, 185, 1, 7, 0) := ⟨am_mP_185, by rw [am_m_185]; exact am_in5 (i := 21) (by decide +kernel) rfl, by rw [am_m_185]; exact am_in5 (i := 23) (by decide +kernel) rfl, by rw [am_m_185]; exact am_inP (q := (⟨"ThingsThrownModel", "isAsNow", "()Z"⟩, 17)) (am_inP3 (i := 15) (by decide +kernel)) rfl, by rw [am_m_185]; decide +kernel, by rw [am_m_185]; decide +kernel⟩
theorem am_mkr_7_167 : am_mkP (7, 167, 188, 2, 0, 1) := ⟨am_mP_188, by rw [am_m_188]; exact am_in5 (i := 33) (by decide +kernel) rfl, by rw [am_m_188]; exact am_in5 (i := 34) (by decide +kernel) rfl, by rw [am_m_188]; decide +kernel⟩
theorem am_mkr_7_170 : am_mkP (7, 170, 190, 3, 0, 1) := ⟨am_mP_190, by rw [am_m_190]; exact am_in5 (i := 40) (by decide +kernel) rfl, by rw [am_m_190]; exact am_in5 (i := 41) (by decide +kernel) rfl, by rw [am_m_190]; decide +kernel⟩
theorem am_mkr_7_174 : am_mkP (7, 174, 187, 1, 0, 1) := ⟨am_mP_187, by rw [am_m_187]; exact am_in5 (i := 29) (by decide +kernel) rfl, by rw [am_m_187]; exact am_in5 (i := 30) (by decide +kernel) rfl, by rw [am_m_187]; decide +kernel⟩
theorem am_mkr_7_177 : am_mkP (7, 177, 189, 3, 7, 0) := ⟨am_mP_189, by rw [am_m_189]; exact am_in5 (i := 36) (by decide +kernel) rfl, by rw [am_m_189]; exact am_in5 (i := 38) (by decide +kernel) rfl, by rw [am_m_189]; exact am_inP (q := (⟨"ThingsThrownModel", "canThrow", "(II)Z"⟩, 17)) (am_inP4 (i := 0) (by decide +kernel)) rfl, by rw [am_m_189]; decide +kernel, by rw [am_m_189]; decide +kernel⟩
theorem am_mkr_7_180 : am_mkP (7, 180, 191, 2, 7, 0) := ⟨am_mP_191, by rw [am_m_191]; exact am_in5 (i := 43) (by decide +kernel) rfl, by rw [am_m_191]; exact am_in5 (i := 45) (by decide +kernel) rfl, by rw [am_m_191]; exact am_inP (q := (⟨"ThingsThrownModel", "comesTo", "(I)Z"⟩, 17)) (am_inP4 (i := 1) (by decide +kernel)) rfl, by rw [am_m_191]; decide +kernel, by rw [am_m_191]; decide +kernel⟩
theorem am_mkr_7_186 : am_mkP (7, 186, 195, 3, 7, 0) := ⟨am_mP_195, by rw [am_m_195]; exact am_in5 (i := 59) (by decide +kernel) rfl, by rw [am_m_195]; exact am_in5 (i := 61) (by decide +kernel) rfl, by rw [am_m_195]; exact am_inP (q := (⟨"ThingsThrownModel", "wrongPairs", "(II)I"⟩, 17)) (am_inP4 (i := 2) (by decide +kernel)) rfl, by rw [am_m_195]; decide +kernel, by rw [am_m_195]; decide +kernel⟩
theorem am_mkr_7_189 : am_mkP (7, 189, 196, 2, 7, 0) := ⟨am_mP_196, by rw [am_m_196]; exact am_in5 (i := 63) (by decide +kernel) rfl, by rw [am_m_196]; exact am_in5 (i := 65) (by decide +kernel) rfl, by rw [am_m_196]; exact am_inP (q := (⟨"ThingsThrownModel", "kindsBy", "(I)I"⟩, 17)) (am_inP4 (i := 3) (by decide +kernel)) rfl, by rw [am_m_196]; decide +kernel, by rw [am_m_196]; decide +kernel⟩
theorem am_mkr_7_192 : am_mkP (7, 192, 198, 2, 0, 1) := ⟨am_mP_198, by rw [am_m_198]; exact am_in5 (i := 71) (by decide +kernel) rfl, by rw [am_m_198]; exact am_in5 (i := 72) (by decide +kernel) rfl, by rw [am_m_198]; decide +kernel⟩
theorem am_mkr_7_196 : am_mkP (7, 196, 200, 1, 0, 1) := ⟨am_mP_200, by rw [am_m_200]; exact am_in5 (i := 78) (by decide +kernel) rfl, by rw [am_m_200]; exact am_in5 (i := 79) (by decide +kernel) rfl, by rw [am_m_200]; decide +kernel⟩
theorem am_mkr_7_199 : am_mkP (7, 199, 202, 2, 7, 0) := ⟨am_mP_202, by rw [am_m_202]; exact am_in5 (i := 86) (by decide +kernel) rfl, by rw [am_m_202]; exact am_in5 (i := 88) (by decide +kernel) rfl, by rw [am_m_202]; exact am_inP (q := (⟨"ThingsThrownModel", "sumAt", "(I)I"⟩, 17)) (am_inP4 (i := 5) (by decide +kernel)) rfl, by rw [am_m_202]; decide +kernel, by rw [am_m_202]; decide +kernel⟩
theorem am_mkr_7_202 : am_mkP (7, 202, 203, 3, 7, 0) := ⟨am_mP_203, by rw [am_m_203]; exact am_in5 (i := 90) (by decide +kernel) rfl, by rw [am_m_203]; exact am_in5 (i := 92) (by decide +kernel) rfl, by rw [am_m_203]; exact am_inP (q := (⟨"ThingsThrownModel", "bestOf", "(II)I"⟩, 17)) (am_inP4 (i := 6) (by decide +kernel)) rfl, by rw [am_m_203]; decide +kernel, by rw [am_m_203]; decide +kernel⟩
theorem am_mkr_7_205 : am_mkP (7, 205, 201, 4, 7, 0) := ⟨am_mP_201, by rw [am_m_201]; exact am_in5 (i := 81) (by decide +kernel) rfl, by rw [am_m_201]; exact am_in5 (i := 83) (by decide +kernel) rfl, by rw [am_m_201]; exact am_inP (q := (⟨"ThingsThrownModel", "worthOf", "(III)I"⟩, 17)) (am_inP4 (i := 4) (by decide +kernel)) rfl, by rw [am_m_201]; decide +kernel, by rw [am_m_201]; decide +kernel⟩
theorem am_mkr_7_208 : am_mkP (7, 208, 206, 3, 7, 0) := ⟨am_mP_206, by rw [am_m_206]; exact am_in5 (i := 102) (by decide +kernel) rfl, by rw [am_m_206]; exact am_in5 (i := 104) (by decide +kernel) rfl, by rw [am_m_206]; exact am_inP (q := (⟨"ThingsThrownModel", "wrongChance", "(II)I"⟩, 17)) (am_inP4 (i := 8) (by decide +kernel)) rfl, by rw [am_m_206]; decide +kernel, by rw [am_m_206]; decide +kernel⟩
theorem am_mkr_7_213 : am_mkP (7, 213, 207, 3, 7, 0) := ⟨am_mP_207, by rw [am_m_207]; exact am_in5 (i := 107) (by decide +kernel) rfl, by rw [am_m_207]; exact am_in5 (i := 109) (by decide +kernel) rfl, by rw [am_m_207]; exact am_inP (q := (⟨"ThingsThrownModel", "madeWith", "(II)I"⟩, 17)) (am_inP4 (i := 9) (by decide +kernel)) rfl, by rw [am_m_207]; decide +kernel, by rw [am_m_207]; decide +kernel⟩
theorem am_mkr_7_216 : am_mkP (7, 216, 208, 4, 7, 0) := ⟨am_mP_208, by rw [am_m_208]; exact am_in5 (i := 111) (by decide +kernel) rfl, by rw [am_m_208]; exact am_in5 (i := 113) (by decide +kernel) rfl, by rw [am_m_208]; exact am_inP (q := (⟨"ThingsThrownModel", "chanceOf", "(III)J"⟩, 17)) (am_inP4 (i := 10) (by decide +kernel)) rfl, by rw [am_m_208]; decide +kernel, by rw [am_m_208]; decide +kernel⟩
theorem am_mkr_7_220 : am_mkP (7, 220, 209, 3, 7, 0) := ⟨am_mP_209, by rw [am_m_209]; exact am_in5 (i := 115) (by decide +kernel) rfl, by rw [am_m_209]; exact am_in5 (i := 117) (by decide +kernel) rfl, by rw [am_m_209]; exact am_inP (q := (⟨"ThingsThrownModel", "tellPart", "(JJ)V"⟩, 17)) (am_inP4 (i := 11) (by decide +kernel)) rfl, by rw [am_m_209]; decide +kernel, by rw [am_m_209]; decide +kernel⟩
theorem am_mkr_7_224 : am_mkP (7, 224, 205, 4, 7, 0) := ⟨am_mP_205, by rw [am_m_205]; exact am_in5 (i := 98) (by decide +kernel) rfl, by rw [am_m_205]; exact am_in5 (i := 100) (by decide +kernel) rfl, by rw [am_m_205]; exact am_inP (q := (⟨"ThingsThrownModel", "chances", "(IIZ)I"⟩, 17)) (am_inP4 (i := 7) (by decide +kernel)) rfl, by rw [am_m_205]; decide +kernel, by rw [am_m_205]; decide +kernel⟩
theorem am_mkr_7_233 : am_mkP (7, 233, 212, 2, 7, 0) := ⟨am_mP_212, by rw [am_m_212]; exact am_in5 (i := 130) (by decide +kernel) rfl, by rw [am_m_212]; exact am_in5 (i := 132) (by decide +kernel) rfl, by rw [am_m_212]; exact am_inP (q := (⟨"ThingsThrownModel", "doByLot", "(I)V"⟩, 17)) (am_inP4 (i := 12) (by decide +kernel)) rfl, by rw [am_m_212]; decide +kernel, by rw [am_m_212]; decide +kernel⟩
theorem am_mkr_7_236 : am_mkP (7, 236, 217, 1, 7, 0) := ⟨am_mP_217, by rw [am_m_217]; exact am_in5 (i := 150) (by decide +kernel) rfl, by rw [am_m_217]; exact am_in5 (i := 152) (by decide +kernel) rfl, by rw [am_m_217]; exact am_inP (q := (⟨"ThingsThrownModel", "throwsMade", "()I"⟩, 17)) (am_inP4 (i := 13) (by decide +kernel)) rfl, by rw [am_m_217]; decide +kernel, by rw [am_m_217]; decide +kernel⟩
theorem am_mkr_7_240 : am_mkP (7, 240, 218, 3, 7, 0) := ⟨am_mP_218, by rw [am_m_218]; exact am_in5 (i := 154) (by decide +kernel) rfl, by rw [am_m_218]; exact am_in5 (i := 156) (by decide +kernel) rfl, by rw [am_m_218]; exact am_inP (q := (⟨"ThingsThrownModel", "ofKinds", "(II)I"⟩, 17)) (am_inP4 (i := 14) (by decide +kernel)) rfl, by rw [am_m_218]; decide +kernel, by rw [am_m_218]; decide +kernel⟩
theorem am_mkr_7_243 : am_mkP (7, 243, 219, 2, 0, 1) := ⟨am_mP_219, by rw [am_m_219]; exact am_in5 (i := 158) (by decide +kernel) rfl, by rw [am_m_219]; exact am_in5 (i := 159) (by decide +kernel) rfl, by rw [am_m_219]; decide +kernel⟩
theorem am_mkr_7_251 : am_mkP (7, 251, 216, 2, 7, 0) := ⟨am_mP_216, by rw [am_m_216]; exact am_in5 (i := 175) (by decide +kernel) rfl, by rw [am_m_216]; exact am_in5 (i := 147) (by decide +kernel) rfl, by rw [am_m_216]; exact am_in5 (i := 148) (by decide +kernel) rfl, by rw [am_m_216]; decide +kernel, by rw [am_m_216]; decide +kernel⟩
theorem am_mkr_8_24 : am_mkP (8, 24, 44, 2, 0, 1) := ⟨am_mP_44, by rw [am_m_44]; exact am_in2 (i := 115) (by decide +kernel) rfl, by rw [am_m_44]; exact am_in2 (i := 105) (by decide +kernel) rfl, by rw [am_m_44]; decide +kernel⟩
theorem am_mkr_8_28 : am_mkP (8, 28, 9002, 0, 0, 6) := am_in2 (i := 116) (by decide +kernel) rfl
theorem am_mkr_8_34 : am_mkP (8, 34, 46, 2, 0, 1) := ⟨am_mP_46, by rw [am_m_46]; exact am_in2 (i := 112) (by decide +kernel) rfl, by rw [am_m_46]; exact am_in2 (i := 113) (by decide +kernel) rfl, by rw [am_m_46]; decide +kernel⟩
theorem am_mkr_8_37 : am_mkP (8, 37, 100, 2, 0, 1) := ⟨am_mP_100, by rw [am_m_100]; exact am_in3 (i := 103) (by decide +kernel) rfl, by rw [am_m_100]; exact am_in3 (i := 104) (by decide +kernel) rfl, by rw [am_m_100]; decide +kernel⟩
theorem am_mkr_8_50 : am_mkP (8, 50, 103, 2, 0, 1) := ⟨am_mP_103, by rw [am_m_103]; exact am_in3 (i := 113) (by decide +kernel) rfl, by rw [am_m_103]; exact am_in3 (i := 114) (by decide +kernel) rfl, by rw [am_m_103]; decide +kernel⟩
theorem am_mkr_8_53 : am_mkP (8, 53, 104, 3, 0, 1) := ⟨am_mP_104, by rw [am_m_104]; exact am_in3 (i := 116) (by decide +kernel) rfl, by rw [am_m_104]; exact am_in3 (i := 117) (by decide +kernel) rfl, by rw [am_m_104]; decide +kernel⟩
def am_mk_0 : List (Nat × Nat × Nat × Nat × Nat × Nat) := [(0, 1, 9000, 0, 0, 3), (0, 20, 1, 1, 5, 5), (0, 27, 2, 1, 6, 5), (0, 34, 3, 1, 2, 5), (0, 45, 4, 2, 3, 2), (0, 54, 5, 2, 1, 2), (0, 77, 6, 2, 4, 2), (0, 80, 7, 1, 2, 0), (0, 83, 9, 1, 0, 1), (0, 87, 10, 2, 0, 0), (0, 91, 11, 3, 4, 0), (0, 95, 13, 3, 0, 0), (0, 102, 17, 2, 0, 0), (0, 105, 14, 2, 0, 0), (0, 111, 15, 1, 4, 0), (0, 115, 21, 3, 4, 0), (0, 119, 9001, 0, 0, 4), (0, 125, 24, 1, 0, 1), (0, 128, 26, 2, 0, 0), (0, 131, 16, 2, 4, 0)]
theorem am_mk_0_ok : ∀ q ∈ am_mk_0, am_mkP q := List.forall_mem_cons.mpr ⟨am_mkr_0_1, List.forall_mem_cons.mpr ⟨am_mkr_0_20, List.forall_mem_cons.mpr ⟨am_mkr_0_27, List.forall_mem_cons.mpr ⟨am_mkr_0_34, List.forall_mem_cons.mpr ⟨am_mkr_0_45, List.forall_mem_cons.mpr ⟨am_mkr_0_54, List.forall_mem_cons.mpr ⟨am_mkr_0_77, List.forall_mem_cons.mpr ⟨am_mkr_0_80, List.forall_mem_cons.mpr ⟨am_mkr_0_83, List.forall_mem_cons.mpr ⟨am_mkr_0_87, List.forall_mem_cons.mpr ⟨am_mkr_0_91, List.forall_mem_cons.mpr ⟨am_mkr_0_95, List.forall_mem_cons.mpr ⟨am_mkr_0_102, List.forall_mem_cons.mpr ⟨am_mkr_0_105, List.forall_mem_cons.mpr ⟨am_mkr_0_111, List.forall_mem_cons.mpr ⟨am_mkr_0_115, List.forall_mem_cons.mpr ⟨am_mkr_0_119, List.forall_mem_cons.mpr ⟨am_mkr_0_125, List.forall_mem_cons.mpr ⟨am_mkr_0_128, List.forall_mem_cons.mpr ⟨am_mkr_0_131, fun _ h => absurd h List.not_mem_nil⟩⟩⟩⟩⟩⟩⟩⟩⟩⟩⟩⟩⟩⟩⟩⟩⟩⟩⟩⟩
def am_mk_1 : List (Nat × Nat × Nat × Nat × Nat × Nat) := [(0, 134, 28, 2, 5, 0), (0, 139, 37, 2, 6, 0), (0, 145, 38, 2, 2, 0), (0, 149, 40, 2, 0, 0), (0, 152, 41, 3, 0, 0), (0, 160, 44, 2, 0, 1), (0, 163, 45, 1, 0, 1), (0, 167, 33, 2, 0, 1), (0, 170, 47, 1, 0, 1), (0, 173, 48, 3, 6, 0), (0, 176, 49, 3, 6, 0), (0, 179, 51, 1, 0, 1), (0, 182, 52, 3, 6, 0), (0, 185, 55, 1, 2, 0), (0, 188, 56, 2, 0, 0), (0, 191, 61, 1, 0, 0), (0, 195, 53, 2, 6, 0), (0, 198, 63, 1, 0, 0), (0, 201, 65, 3, 0, 0), (0, 207, 68, 2, 2, 0)]
theorem am_mk_1_ok : ∀ q ∈ am_mk_1, am_mkP q := List.forall_mem_cons.mpr ⟨am_mkr_0_134, List.forall_mem_cons.mpr ⟨am_mkr_0_139, List.forall_mem_cons.mpr ⟨am_mkr_0_145, List.forall_mem_cons.mpr ⟨am_mkr_0_149, List.forall_mem_cons.mpr ⟨am_mkr_0_152, List.forall_mem_cons.mpr ⟨am_mkr_0_160, List.forall_mem_cons.mpr ⟨am_mkr_0_163, List.forall_mem_cons.mpr ⟨am_mkr_0_167, List.forall_mem_cons.mpr ⟨am_mkr_0_170, List.forall_mem_cons.mpr ⟨am_mkr_0_173, List.forall_mem_cons.mpr ⟨am_mkr_0_176, List.forall_mem_cons.mpr ⟨am_mkr_0_179, List.forall_mem_cons.mpr ⟨am_mkr_0_182, List.forall_mem_cons.mpr ⟨am_mkr_0_185, List.forall_mem_cons.mpr ⟨am_mkr_0_188, List.forall_mem_cons.mpr ⟨am_mkr_0_191, List.forall_mem_cons.mpr ⟨am_mkr_0_195, List.forall_mem_cons.mpr ⟨am_mkr_0_198, List.forall_mem_cons.mpr ⟨am_mkr_0_201, List.forall_mem_cons.mpr ⟨am_mkr_0_207, fun _ h => absurd h List.not_mem_nil⟩⟩⟩⟩⟩⟩⟩⟩⟩⟩⟩⟩⟩⟩⟩⟩⟩⟩⟩⟩
def am_mk_2 : List (Nat × Nat × Nat × Nat × Nat × Nat) := [(0, 210, 70, 1, 0, 1), (0, 213, 71, 2, 2, 0), (0, 216, 60, 1, 2, 0), (0, 219, 46, 2, 0, 1), (0, 222, 75, 2, 6, 0), (0, 225, 77, 4, 0, 0), (0, 229, 78, 3, 3, 0), (0, 236, 32, 2, 6, 0), (0, 239, 82, 3, 3, 0), (0, 242, 85, 1, 0, 1), (0, 245, 86, 3, 3, 0), (0, 251, 91, 3, 3, 0), (0, 255, 93, 3, 0, 0), (0, 262, 96, 3, 3, 0), (0, 265, 98, 3, 0, 0), (0, 268, 99, 1, 0, 1), (0, 271, 102, 1, 0, 1), (0, 274, 103, 2, 0, 1), (0, 277, 106, 3, 3, 0), (0, 280, 110, 3, 0, 0)]
theorem am_mk_2_ok : ∀ q ∈ am_mk_2, am_mkP q := List.forall_mem_cons.mpr ⟨am_mkr_0_210, List.forall_mem_cons.mpr ⟨am_mkr_0_213, List.forall_mem_cons.mpr ⟨am_mkr_0_216, List.forall_mem_cons.mpr ⟨am_mkr_0_219, List.forall_mem_cons.mpr ⟨am_mkr_0_222, List.forall_mem_cons.mpr ⟨am_mkr_0_225, List.forall_mem_cons.mpr ⟨am_mkr_0_229, List.forall_mem_cons.mpr ⟨am_mkr_0_236, List.forall_mem_cons.mpr ⟨am_mkr_0_239, List.forall_mem_cons.mpr ⟨am_mkr_0_242, List.forall_mem_cons.mpr ⟨am_mkr_0_245, List.forall_mem_cons.mpr ⟨am_mkr_0_251, List.forall_mem_cons.mpr ⟨am_mkr_0_255, List.forall_mem_cons.mpr ⟨am_mkr_0_262, List.forall_mem_cons.mpr ⟨am_mkr_0_265, List.forall_mem_cons.mpr ⟨am_mkr_0_268, List.forall_mem_cons.mpr ⟨am_mkr_0_271, List.forall_mem_cons.mpr ⟨am_mkr_0_274, List.forall_mem_cons.mpr ⟨am_mkr_0_277, List.forall_mem_cons.mpr ⟨am_mkr_0_280, fun _ h => absurd h List.not_mem_nil⟩⟩⟩⟩⟩⟩⟩⟩⟩⟩⟩⟩⟩⟩⟩⟩⟩⟩⟩⟩
def am_mk_3 : List (Nat × Nat × Nat × Nat × Nat × Nat) := [(0, 283, 111, 4, 1, 0), (0, 287, 113, 1, 0, 1), (0, 291, 115, 4, 1, 0), (0, 299, 117, 2, 0, 0), (0, 305, 108, 2, 6, 0), (0, 308, 123, 1, 2, 0), (0, 310, 124, 2, 6, 0), (0, 313, 125, 1, 0, 1), (0, 317, 126, 1, 0, 0), (0, 324, 122, 2, 0, 0), (0, 327, 130, 2, 0, 1), (0, 332, 94, 2, 0, 1), (0, 336, 42, 1, 0, 1), (0, 342, 57, 3, 6, 0), (0, 345, 59, 4, 2, 0), (0, 349, 58, 3, 6, 0), (0, 352, 66, 3, 0, 1), (0, 355, 118, 2, 0, 0), (1, 3, 9000, 0, 0, 3), (1, 17, 112, 6, 1, 0)]
theorem am_mk_3_ok : ∀ q ∈ am_mk_3, am_mkP q := List.forall_mem_cons.mpr ⟨am_mkr_0_283, List.forall_mem_cons.mpr ⟨am_mkr_0_287, List.forall_mem_cons.mpr ⟨am_mkr_0_291, List.forall_mem_cons.mpr ⟨am_mkr_0_299, List.forall_mem_cons.mpr ⟨am_mkr_0_305, List.forall_mem_cons.mpr ⟨am_mkr_0_308, List.forall_mem_cons.mpr ⟨am_mkr_0_310, List.forall_mem_cons.mpr ⟨am_mkr_0_313, List.forall_mem_cons.mpr ⟨am_mkr_0_317, List.forall_mem_cons.mpr ⟨am_mkr_0_324, List.forall_mem_cons.mpr ⟨am_mkr_0_327, List.forall_mem_cons.mpr ⟨am_mkr_0_332, List.forall_mem_cons.mpr ⟨am_mkr_0_336, List.forall_mem_cons.mpr ⟨am_mkr_0_342, List.forall_mem_cons.mpr ⟨am_mkr_0_345, List.forall_mem_cons.mpr ⟨am_mkr_0_349, List.forall_mem_cons.mpr ⟨am_mkr_0_352, List.forall_mem_cons.mpr ⟨am_mkr_0_355, List.forall_mem_cons.mpr ⟨am_mkr_1_3, List.forall_mem_cons.mpr ⟨am_mkr_1_17, fun _ h => absurd h List.not_mem_nil⟩⟩⟩⟩⟩⟩⟩⟩⟩⟩⟩⟩⟩⟩⟩⟩⟩⟩⟩⟩
def am_mk_4 : List (Nat × Nat × Nat × Nat × Nat × Nat) := [(1, 27, 79, 2, 6, 0), (1, 37, 9003, 0, 0, 7), (1, 43, 113, 1, 0, 1), (1, 47, 52, 3, 6, 0), (1, 51, 57, 3, 6, 0), (2, 3, 9000, 0, 0, 3), (2, 34, 60, 1, 2, 0), (2, 38, 55, 1, 2, 0), (2, 41, 9001, 0, 0, 4), (3, 3, 9000, 0, 0, 3), (3, 31, 79, 2, 6, 0), (3, 40, 52, 3, 6, 0), (3, 44, 57, 3, 6, 0), (3, 48, 78, 3, 3, 0), (3, 52, 83, 3, 3, 0), (3, 55, 80, 2, 6, 0), (3, 58, 58, 3, 6, 0), (3, 61, 32, 2, 6, 0), (3, 64, 87, 1, 0, 1), (3, 70, 88, 5, 3, 0)]
theorem am_mk_4_ok : ∀ q ∈ am_mk_4, am_mkP q := List.forall_mem_cons.mpr ⟨am_mkr_1_27, List.forall_mem_cons.mpr ⟨am_mkr_1_37, List.forall_mem_cons.mpr ⟨am_mkr_1_43, List.forall_mem_cons.mpr ⟨am_mkr_1_47, List.forall_mem_cons.mpr ⟨am_mkr_1_51, List.forall_mem_cons.mpr ⟨am_mkr_2_3, List.forall_mem_cons.mpr ⟨am_mkr_2_34, List.forall_mem_cons.mpr ⟨am_mkr_2_38, List.forall_mem_cons.mpr ⟨am_mkr_2_41, List.forall_mem_cons.mpr ⟨am_mkr_3_3, List.forall_mem_cons.mpr ⟨am_mkr_3_31, List.forall_mem_cons.mpr ⟨am_mkr_3_40, List.forall_mem_cons.mpr ⟨am_mkr_3_44, List.forall_mem_cons.mpr ⟨am_mkr_3_48, List.forall_mem_cons.mpr ⟨am_mkr_3_52, List.forall_mem_cons.mpr ⟨am_mkr_3_55, List.forall_mem_cons.mpr ⟨am_mkr_3_58, List.forall_mem_cons.mpr ⟨am_mkr_3_61, List.forall_mem_cons.mpr ⟨am_mkr_3_64, List.forall_mem_cons.mpr ⟨am_mkr_3_70, fun _ h => absurd h List.not_mem_nil⟩⟩⟩⟩⟩⟩⟩⟩⟩⟩⟩⟩⟩⟩⟩⟩⟩⟩⟩⟩
def am_mk_5 : List (Nat × Nat × Nat × Nat × Nat × Nat) := [(3, 74, 89, 3, 3, 0), (3, 77, 75, 2, 6, 0), (3, 80, 92, 4, 3, 0), (3, 84, 107, 3, 3, 0), (3, 87, 108, 2, 6, 0), (3, 92, 9002, 0, 0, 6), (3, 97, 9003, 0, 0, 7), (4, 1, 9000, 0, 0, 3), (4, 17, 9003, 0, 0, 7), (4, 23, 9002, 0, 0, 6), (5, 3, 9000, 0, 0, 3), (5, 11, 2, 1, 6, 5), (5, 22, 29, 1, 6, 0), (5, 34, 30, 1, 0, 1), (5, 41, 31, 2, 5, 0), (5, 45, 34, 3, 0, 1), (5, 49, 35, 2, 6, 0), (5, 53, 32, 2, 6, 0), (6, 3, 9000, 0, 0, 3), (6, 19, 33, 2, 0, 1)]
theorem am_mk_5_ok : ∀ q ∈ am_mk_5, am_mkP q := List.forall_mem_cons.mpr ⟨am_mkr_3_74, List.forall_mem_cons.mpr ⟨am_mkr_3_77, List.forall_mem_cons.mpr ⟨am_mkr_3_80, List.forall_mem_cons.mpr ⟨am_mkr_3_84, List.forall_mem_cons.mpr ⟨am_mkr_3_87, List.forall_mem_cons.mpr ⟨am_mkr_3_92, List.forall_mem_cons.mpr ⟨am_mkr_3_97, List.forall_mem_cons.mpr ⟨am_mkr_4_1, List.forall_mem_cons.mpr ⟨am_mkr_4_17, List.forall_mem_cons.mpr ⟨am_mkr_4_23, List.forall_mem_cons.mpr ⟨am_mkr_5_3, List.forall_mem_cons.mpr ⟨am_mkr_5_11, List.forall_mem_cons.mpr ⟨am_mkr_5_22, List.forall_mem_cons.mpr ⟨am_mkr_5_34, List.forall_mem_cons.mpr ⟨am_mkr_5_41, List.forall_mem_cons.mpr ⟨am_mkr_5_45, List.forall_mem_cons.mpr ⟨am_mkr_5_49, List.forall_mem_cons.mpr ⟨am_mkr_5_53, List.forall_mem_cons.mpr ⟨am_mkr_6_3, List.forall_mem_cons.mpr ⟨am_mkr_6_19, fun _ h => absurd h List.not_mem_nil⟩⟩⟩⟩⟩⟩⟩⟩⟩⟩⟩⟩⟩⟩⟩⟩⟩⟩⟩⟩
def am_mk_6 : List (Nat × Nat × Nat × Nat × Nat × Nat) := [(6, 23, 34, 3, 0, 1), (6, 27, 9001, 0, 0, 4), (6, 33, 44, 2, 0, 1), (6, 39, 9003, 0, 0, 7), (6, 45, 80, 2, 6, 0), (6, 49, 58, 3, 6, 0), (6, 52, 53, 2, 6, 0), (6, 55, 32, 2, 6, 0), (6, 58, 46, 2, 0, 1), (6, 61, 54, 2, 0, 1), (7, 1, 9000, 0, 0, 3), (7, 55, 134, 3, 0, 1), (7, 59, 133, 1, 0, 1), (7, 63, 135, 2, 7, 0), (7, 67, 137, 3, 7, 0), (7, 71, 138, 2, 7, 0), (7, 74, 142, 4, 7, 0), (7, 77, 145, 1, 0, 1), (7, 83, 149, 3, 7, 0), (7, 86, 150, 1, 0, 1)]
theorem am_mk_6_ok : ∀ q ∈ am_mk_6, am_mkP q := List.forall_mem_cons.mpr ⟨am_mkr_6_23, List.forall_mem_cons.mpr ⟨am_mkr_6_27, List.forall_mem_cons.mpr ⟨am_mkr_6_33, List.forall_mem_cons.mpr ⟨am_mkr_6_39, List.forall_mem_cons.mpr ⟨am_mkr_6_45, List.forall_mem_cons.mpr ⟨am_mkr_6_49, List.forall_mem_cons.mpr ⟨am_mkr_6_52, List.forall_mem_cons.mpr ⟨am_mkr_6_55, List.forall_mem_cons.mpr ⟨am_mkr_6_58, List.forall_mem_cons.mpr ⟨am_mkr_6_61, List.forall_mem_cons.mpr ⟨am_mkr_7_1, List.forall_mem_cons.mpr ⟨am_mkr_7_55, List.forall_mem_cons.mpr ⟨am_mkr_7_59, List.forall_mem_cons.mpr ⟨am_mkr_7_63, List.forall_mem_cons.mpr ⟨am_mkr_7_67, List.forall_mem_cons.mpr ⟨am_mkr_7_71, List.forall_mem_cons.mpr ⟨am_mkr_7_74, List.forall_mem_cons.mpr ⟨am_mkr_7_77, List.forall_mem_cons.mpr ⟨am_mkr_7_83, List.forall_mem_cons.mpr ⟨am_mkr_7_86, fun _ h => absurd h List.not_mem_nil⟩⟩⟩⟩⟩⟩⟩⟩⟩⟩⟩⟩⟩⟩⟩⟩⟩⟩⟩⟩
def am_mk_7 : List (Nat × Nat × Nat × Nat × Nat × Nat) := [(7, 89, 151, 2, 7, 0), (7, 92, 148, 2, 7, 0), (7, 98, 156, 2, 0, 1), (7, 101, 154, 2, 7, 0), (7, 104, 155, 1, 0, 1), (7, 107, 158, 2, 0, 1), (7, 110, 159, 2, 7, 0), (7, 113, 160, 2, 7, 0), (7, 116, 164, 2, 7, 0), (7, 119, 165, 2, 7, 0), (7, 122, 166, 2, 0, 1), (7, 126, 163, 3, 7, 0), (7, 129, 170, 2, 7, 0), (7, 133, 168, 4, 7, 0), (7, 137, 162, 1, 0, 1), (7, 140, 167, 1, 7, 0), (7, 143, 169, 3, 7, 0), (7, 147, 173, 3, 7, 0), (7, 150, 179, 2, 7, 0), (7, 153, 181, 4, 7, 0)]
theorem am_mk_7_ok : ∀ q ∈ am_mk_7, am_mkP q := List.forall_mem_cons.mpr ⟨am_mkr_7_89, List.forall_mem_cons.mpr ⟨am_mkr_7_92, List.forall_mem_cons.mpr ⟨am_mkr_7_98, List.forall_mem_cons.mpr ⟨am_mkr_7_101, List.forall_mem_cons.mpr ⟨am_mkr_7_104, List.forall_mem_cons.mpr ⟨am_mkr_7_107, List.forall_mem_cons.mpr ⟨am_mkr_7_110, List.forall_mem_cons.mpr ⟨am_mkr_7_113, List.forall_mem_cons.mpr ⟨am_mkr_7_116, List.forall_mem_cons.mpr ⟨am_mkr_7_119, List.forall_mem_cons.mpr ⟨am_mkr_7_122, List.forall_mem_cons.mpr ⟨am_mkr_7_126, List.forall_mem_cons.mpr ⟨am_mkr_7_129, List.forall_mem_cons.mpr ⟨am_mkr_7_133, List.forall_mem_cons.mpr ⟨am_mkr_7_137, List.forall_mem_cons.mpr ⟨am_mkr_7_140, List.forall_mem_cons.mpr ⟨am_mkr_7_143, List.forall_mem_cons.mpr ⟨am_mkr_7_147, List.forall_mem_cons.mpr ⟨am_mkr_7_150, List.forall_mem_cons.mpr ⟨am_mkr_7_153, fun _ h => absurd h List.not_mem_nil⟩⟩⟩⟩⟩⟩⟩⟩⟩⟩⟩⟩⟩⟩⟩⟩⟩⟩⟩⟩
def am_mk_8 : List (Nat × Nat × Nat × Nat × Nat × Nat) := [(7, 157, 182, 1, 7, 0), (7, 160, 183, 2, 7, 0), (7, 163, 185, 1, 7, 0), (7, 167, 188, 2, 0, 1), (7, 170, 190, 3, 0, 1), (7, 174, 187, 1, 0, 1), (7, 177, 189, 3, 7, 0), (7, 180, 191, 2, 7, 0), (7, 186, 195, 3, 7, 0), (7, 189, 196, 2, 7, 0), (7, 192, 198, 2, 0, 1), (7, 196, 200, 1, 0, 1), (7, 199, 202, 2, 7, 0), (7, 202, 203, 3, 7, 0), (7, 205, 201, 4, 7, 0), (7, 208, 206, 3, 7, 0), (7, 213, 207, 3, 7, 0), (7, 216, 208, 4, 7, 0), (7, 220, 209, 3, 7, 0), (7, 224, 205, 4, 7, 0)]
theorem am_mk_8_ok : ∀ q ∈ am_mk_8, am_mkP q := List.forall_mem_cons.mpr ⟨am_mkr_7_157, List.forall_mem_cons.mpr ⟨am_mkr_7_160, List.forall_mem_cons.mpr ⟨am_mkr_7_163, List.forall_mem_cons.mpr ⟨am_mkr_7_167, List.forall_mem_cons.mpr ⟨am_mkr_7_170, List.forall_mem_cons.mpr ⟨am_mkr_7_174, List.forall_mem_cons.mpr ⟨am_mkr_7_177, List.forall_mem_cons.mpr ⟨am_mkr_7_180, List.forall_mem_cons.mpr ⟨am_mkr_7_186, List.forall_mem_cons.mpr ⟨am_mkr_7_189, List.forall_mem_cons.mpr ⟨am_mkr_7_192, List.forall_mem_cons.mpr ⟨am_mkr_7_196, List.forall_mem_cons.mpr ⟨am_mkr_7_199, List.forall_mem_cons.mpr ⟨am_mkr_7_202, List.forall_mem_cons.mpr ⟨am_mkr_7_205, List.forall_mem_cons.mpr ⟨am_mkr_7_208, List.forall_mem_cons.mpr ⟨am_mkr_7_213, List.forall_mem_cons.mpr ⟨am_mkr_7_216, List.forall_mem_cons.mpr ⟨am_mkr_7_220, List.forall_mem_cons.mpr ⟨am_mkr_7_224, fun _ h => absurd h List.not_mem_nil⟩⟩⟩⟩⟩⟩⟩⟩⟩⟩⟩⟩⟩⟩⟩⟩⟩⟩⟩⟩
def am_mk_9 : List (Nat × Nat × Nat × Nat × Nat × Nat) := [(7, 233, 212, 2, 7, 0), (7, 236, 217, 1, 7, 0), (7, 240, 218, 3, 7, 0), (7, 243, 219, 2, 0, 1), (7, 251, 216, 2, 7, 0), (8, 24, 44, 2, 0, 1), (8, 28, 9002, 0, 0, 6), (8, 34, 46, 2, 0, 1), (8, 37, 100, 2, 0, 1), (8, 50, 103, 2, 0, 1), (8, 53, 104, 3, 0, 1)]
theorem am_mk_9_ok : ∀ q ∈ am_mk_9, am_mkP q := List.forall_mem_cons.mpr ⟨am_mkr_7_233, List.forall_mem_cons.mpr ⟨am_mkr_7_236, List.forall_mem_cons.mpr ⟨am_mkr_7_240, List.forall_mem_cons.mpr ⟨am_mkr_7_243, List.forall_mem_cons.mpr ⟨am_mkr_7_251, List.forall_mem_cons.mpr ⟨am_mkr_8_24, List.forall_mem_cons.mpr ⟨am_mkr_8_28, List.forall_mem_cons.mpr ⟨am_mkr_8_34, List.forall_mem_cons.mpr ⟨am_mkr_8_37, List.forall_mem_cons.mpr ⟨am_mkr_8_50, List.forall_mem_cons.mpr ⟨am_mkr_8_53, fun _ h => absurd h List.not_mem_nil⟩⟩⟩⟩⟩⟩⟩⟩⟩⟩⟩
def am_mk : List (Nat × Nat × Nat × Nat × Nat × Nat) := am_mk_0 ++ (am_mk_1 ++ (am_mk_2 ++ (am_mk_3 ++ (am_mk_4 ++ (am_mk_5 ++ (am_mk_6 ++ (am_mk_7 ++ (am_mk_8 ++ (am_mk_9)))))))))
theorem am_mk_ok : ∀ q ∈ am_mk, am_mkP q := fun q h => by unfold am_mk at h; exact (List.mem_append.mp h).elim (am_mk_0_ok q) (fun h => (List.mem_append.mp h).elim (am_mk_1_ok q) (fun h => (List.mem_append.mp h).elim (am_mk_2_ok q) (fun h => (List.mem_append.mp h).elim (am_mk_3_ok q) (fun h => (List.mem_append.mp h).elim (am_mk_4_ok q) (fun h => (List.mem_append.mp h).elim (am_mk_5_ok q) (fun h => (List.mem_append.mp h).elim (am_mk_6_ok q) (fun h => (List.mem_append.mp h).elim (am_mk_7_ok q) (fun h => (List.mem_append.mp h).elim (am_mk_8_ok q) (fun h => am_mk_9_ok q h)))))))))
end
section
/-! ===== an abstract machine: cells by handles, a code table, what one instruction asks ===== -/
/-- a cell: an array of ints (0), bytes (1), Sheets (2), Evenings (3); an object of a class by its number -/
abbrev Am_C : Type := (Nat × vp_A) ⊕ (Nat × List Value)
def am_ft (t : Nat) : FieldType := match t with
  | 0 => .int
  | 1 => .byte
  | 2 => .object "ThingsThrown$Sheet"
  | _ => .object "ThingsThrown$Evening"
abbrev Am_X : Type := va_G × (FieldType → ClassId) × (Nat → Nat) × (Nat → Nat)
def am_v (K : Am_X) : Value → Value
  | .ref k => .ref (K.2.2.1 k)
  | .retAddr k => .ref (K.2.2.2 k)
  | .int x => .int x
  | .long x => .long x
  | .float x => .float x
  | .double x => .double x
  | .null => .null
def am_vA (K : Am_X) (a : vp_A) : vp_A := (a.1, match a.2 with
  | .inr (.inr (.inr (.inr f))) => .inr (.inr (.inr (.inr (fun j => (f j).map K.2.2.1))))
  | .inl f => .inl f
  | .inr (.inl f) => .inr (.inl f)
  | .inr (.inr (.inl f)) => .inr (.inr (.inl f))
  | .inr (.inr (.inr (.inl f))) => .inr (.inr (.inr (.inl f))))
def am_c (K : Am_X) : Am_C → va_E
  | .inl (t, a) => .inl (K.2.1 (am_ft t), am_vA K a)
  | .inr (ci, fs) => .inr (ci, fs.map (am_v K))
def am_w (K : Am_X) (hp : List Am_C) : va_W := hp.mapIdx (fun k c => (K.2.2.1 k, am_c K c))
theorem am_w_at {K : Am_X} {hp : List Am_C} {k : Nat} {c : Am_C} (h : hp[k]? = some c) : (am_w K hp)[k]? = some (K.2.2.1 k, am_c K c) := by
  simp [am_w, List.getElem?_mapIdx, h]
theorem am_w_inv {K : Am_X} {hp : List Am_C} {k : Nat} {q : Nat × va_E} (h : (am_w K hp)[k]? = some q) : ∃ c, hp[k]? = some c ∧ q = (K.2.2.1 k, am_c K c) := by
  simp only [am_w, List.getElem?_mapIdx, Option.map_eq_some_iff] at h
  obtain ⟨c, h1, h2⟩ := h
  exact ⟨c, h1, h2.symm⟩
theorem am_w_set {K : Am_X} {hp : List Am_C} {k : Nat} {c : Am_C} : (am_w K hp).set k (K.2.2.1 k, am_c K c) = am_w K (hp.set k c) := by
  apply List.ext_getElem?
  intro j
  by_cases hj : k = j
  · subst hj
    by_cases hl : k < hp.length
    · simp [am_w, List.getElem?_mapIdx, hl]
    · simp [am_w, List.getElem?_mapIdx, hl]
  · simp [am_w, List.getElem?_mapIdx, hj]
theorem am_w_app {K : Am_X} {hp : List Am_C} {c : Am_C} : am_w K (hp ++ [c]) = am_w K hp ++ [(K.2.2.1 hp.length, am_c K c)] := by
  simp [am_w, List.mapIdx_append]
theorem am_cat (K : Am_X) (v : Value) : (am_v K v).category = v.category := by cases v <;> rfl
theorem am_cats (K : Am_X) (st : List Value) : ((st.map (am_v K)).map fun v => v.category) = st.map fun v => v.category := by
  rw [List.map_map]
  apply List.map_congr_left
  intro v _
  exact am_cat K v
/-! locals -/
def am_R (K : Am_X) (ls : Array Slot) (nL : Nat) (loc : List (Option Value)) : Prop := ls.size = nL ∧ lv_wf ls ∧ loc.length = nL ∧ ∀ (i : Nat) (v : Value), loc[i]? = some (some v) → ls[i]? = some (.val (am_v K v))
def am_all (K : Am_X) (loc : List (Option Value)) : List (Nat × Value) := (List.range loc.length).filterMap (fun i => match loc[i]? with
  | some (some v) => some (i, am_v K v)
  | _ => none)
theorem am_all_in {K : Am_X} {loc : List (Option Value)} {i : Nat} {v : Value} (h : loc[i]? = some (some v)) : (i, am_v K v) ∈ am_all K loc := by
  refine List.mem_filterMap.mpr ⟨i, List.mem_range.mpr (List.getElem?_eq_some_iff.mp h).1, ?_⟩
  simp [h]
theorem am_R_has {K : Am_X} {ls : Array Slot} {nL : Nat} {loc : List (Option Value)} (h : am_R K ls nL loc) : lv_has ls nL (am_all K loc) := by
  refine ⟨h.1, h.2.1, fun q hq => ?_⟩
  obtain ⟨i, -, hi⟩ := List.mem_filterMap.mp hq
  split at hi
  · next v hv =>
    cases hi
    exact h.2.2.2 i v hv
  · cases hi
def am_clr (loc : List (Option Value)) (i : Nat) : List (Option Value) := match i with
  | 0 => loc
  | j + 1 => match loc[j]? with
    | some (some (.long _)) => loc.set j none
    | some (some (.double _)) => loc.set j none
    | _ => loc
theorem am_clr_len (loc : List (Option Value)) (i : Nat) : (am_clr loc i).length = loc.length := by
  unfold am_clr
  split
  · rfl
  · split <;> simp
theorem am_clr_at {loc : List (Option Value)} {i j : Nat} {v : Value} (h : (am_clr loc i)[j]? = some (some v)) : loc[j]? = some (some v) ∧ ¬ (j + 1 = i ∧ v.category = 2) := by
  unfold am_clr at h
  split at h
  · exact ⟨h, fun q => by omega⟩
  · next n =>
    split at h
    · next x hx =>
      by_cases hj : n = j
      · subst hj
        rw [List.getElem?_set] at h
        split at h
        · split at h <;> cases h
        · next q => exact absurd rfl q
      · rw [List.getElem?_set_ne hj] at h
        exact ⟨h, fun q => by omega⟩
    · next x hx =>
      by_cases hj : n = j
      · subst hj
        rw [List.getElem?_set] at h
        split at h
        · split at h <;> cases h
        · next q => exact absurd rfl q
      · rw [List.getElem?_set_ne hj] at h
        exact ⟨h, fun q => by omega⟩
    · next hn1 hn2 =>
      refine ⟨h, fun q => ?_⟩
      have hj : j = n := by omega
      subst hj
      cases v with
      | long x => exact hn1 x h
      | double x => exact hn2 x h
      | _ => exact absurd q.2 (by simp [Value.category])
def am_s1 (loc : List (Option Value)) (i : Nat) (v : Value) : List (Option Value) := (am_clr loc i).set i (some v)
def am_s2 (loc : List (Option Value)) (i : Nat) (v : Value) : List (Option Value) := ((am_clr loc i).set i (some v)).set (i + 1) none
theorem am_R_s1 {K : Am_X} {ls ls' : Array Slot} {nL i : Nat} {loc : List (Option Value)} {v : Value} (h : am_R K ls nL loc) (h2 : lv_has ls' nL ((i, am_v K v) :: (am_all K loc).filter (fun q => !(q.1 == i) && !(q.1 + 1 == i && q.2.category == 2)))) : am_R K ls' nL (am_s1 loc i v) := by
  refine ⟨h2.1, h2.2.1, by rw [am_s1, List.length_set, am_clr_len]; exact h.2.2.1, fun j w hj => ?_⟩
  unfold am_s1 at hj
  by_cases hij : i = j
  · subst hij
    have hl := (List.getElem?_eq_some_iff.mp hj).1
    rw [List.length_set] at hl
    rw [List.getElem?_set_self hl] at hj
    cases hj
    exact h2.2.2 (i, am_v K v) List.mem_cons_self
  · rw [List.getElem?_set_ne hij] at hj
    obtain ⟨h3, h4⟩ := am_clr_at hj
    refine h2.2.2 (j, am_v K w) (List.mem_cons_of_mem _ (List.mem_filter.mpr ⟨am_all_in h3, ?_⟩))
    have e1 : (j == i) = false := by simp; omega
    simp only [e1, am_cat, Bool.not_false, Bool.true_and, Bool.not_eq_true', Bool.and_eq_false_iff, beq_eq_false_iff_ne, ne_eq]
    by_cases h5 : j + 1 = i
    · exact Or.inr (fun h6 => h4 ⟨h5, h6⟩)
    · exact Or.inl h5
theorem am_R_s2 {K : Am_X} {ls ls' : Array Slot} {nL i : Nat} {loc : List (Option Value)} {v : Value} (h : am_R K ls nL loc) (h2 : lv_has ls' nL ((i, am_v K v) :: (am_all K loc).filter (fun q => !(q.1 == i) && (!(q.1 == i + 1) && !(q.1 + 1 == i && q.2.category == 2))))) : am_R K ls' nL (am_s2 loc i v) := by
  refine ⟨h2.1, h2.2.1, by rw [am_s2, List.length_set, List.length_set, am_clr_len]; exact h.2.2.1, fun j w hj => ?_⟩
  unfold am_s2 at hj
  by_cases hi1 : i + 1 = j
  · subst hi1
    rw [List.getElem?_set] at hj
    split at hj
    · split at hj
      · cases hj
      · cases hj
    · next q => exact absurd rfl q
  rw [List.getElem?_set_ne hi1] at hj
  by_cases hij : i = j
  · subst hij
    have hl := (List.getElem?_eq_some_iff.mp hj).1
    rw [List.length_set] at hl
    rw [List.getElem?_set_self hl] at hj
    cases hj
    exact h2.2.2 (i, am_v K v) List.mem_cons_self
  · rw [List.getElem?_set_ne hij] at hj
    obtain ⟨h3, h4⟩ := am_clr_at hj
    refine h2.2.2 (j, am_v K w) (List.mem_cons_of_mem _ (List.mem_filter.mpr ⟨am_all_in h3, ?_⟩))
    have e1 : (j == i) = false := by simp; omega
    have e2 : (j == i + 1) = false := by simp; omega
    simp only [e1, e2, am_cat, Bool.not_false, Bool.true_and, Bool.not_eq_true', Bool.and_eq_false_iff, beq_eq_false_iff_ne, ne_eq]
    by_cases h5 : j + 1 = i
    · exact Or.inr (fun h6 => h4 ⟨h5, h6⟩)
    · exact Or.inl h5
def am_l0 : List Value → List (Option Value)
  | [] => []
  | v :: vs => match v with
    | .long x => some (.long x) :: none :: am_l0 vs
    | .double x => some (.double x) :: none :: am_l0 vs
    | v => some v :: am_l0 vs
theorem am_l0_len (K : Am_X) : ∀ vs : List Value, (am_l0 vs).length = (lg_sl (vs.map (am_v K))).length
  | [] => rfl
  | v :: vs => by
    have ih := am_l0_len K vs
    cases v <;> simp_all [am_l0, lg_sl, am_v, Value.category] <;> omega
theorem am_l0_in (K : Am_X) : ∀ (vs : List Value) (o i : Nat) (v : Value), (am_l0 vs)[i]? = some (some v) → (o + i, am_v K v) ∈ lv_args o (vs.map (am_v K))
  | [], o, i, v, h => by simp [am_l0] at h
  | x :: vs, o, i, v, h => by
    have ih := am_l0_in K vs
    cases x with
    | long z =>
      match i, h with
      | 0, h => simp [am_l0] at h; subst h; simp [lv_args]
      | 1, h => simp [am_l0] at h
      | i + 2, h =>
        have h1 : (am_l0 vs)[i]? = some (some v) := by simpa [am_l0] using h
        have h2 := ih (o + 2) i v h1
        have e : o + 2 + i = o + (i + 2) := by omega
        rw [e] at h2
        exact List.mem_cons_of_mem _ h2
    | double z =>
      match i, h with
      | 0, h => simp [am_l0] at h; subst h; simp [lv_args]
      | 1, h => simp [am_l0] at h
      | i + 2, h =>
        have h1 : (am_l0 vs)[i]? = some (some v) := by simpa [am_l0] using h
        have h2 := ih (o + 2) i v h1
        have e : o + 2 + i = o + (i + 2) := by omega
        rw [e] at h2
        exact List.mem_cons_of_mem _ h2
    | _ =>
      match i, h with
      | 0, h => simp [am_l0] at h; subst h; simp [lv_args]
      | i + 1, h =>
        have h1 : (am_l0 vs)[i]? = some (some v) := by simpa [am_l0] using h
        have h2 := ih (o + 1) i v h1
        have e : o + 1 + i = o + (i + 1) := by omega
        rw [e] at h2
        exact List.mem_cons_of_mem _ h2
def am_loc (n : Nat) (vs : List Value) : List (Option Value) := am_l0 vs ++ List.replicate (n - (am_l0 vs).length) none
theorem am_R_entry (K : Am_X) (vs : List Value) {n : Nat} (h : (am_l0 vs).length ≤ n) : am_R K ((lg_sl (vs.map (am_v K)) ++ List.replicate (n - (lg_sl (vs.map (am_v K))).length) Slot.unset).toArray) n (am_loc n vs) := by
  have h0 : (lg_sl (vs.map (am_v K))).length ≤ n := by rw [← am_l0_len]; exact h
  have h1 := lv_entry (vs.map (am_v K)) h0
  refine ⟨h1.1, h1.2.1, by simp [am_loc]; omega, fun i v hi => ?_⟩
  unfold am_loc at hi
  by_cases hl : i < (am_l0 vs).length
  · rw [List.getElem?_append_left hl] at hi
    have h2 := am_l0_in K vs 0 i v hi
    rw [Nat.zero_add] at h2
    exact h1.2.2 (i, am_v K v) h2
  · rw [List.getElem?_append_right (by omega), List.getElem?_replicate] at hi
    split at hi <;> cases hi
end
section
/-! ===== what one instruction asks of what follows ===== -/
abbrev Am_E : Type := Nat × Instr × Nat × Nat × Nat × Nat
abbrev Am_K : Type := Nat → List (Option Value) → List Value → List Am_C → Nat → Nat → Prop
def am_lk : List Am_E → Nat → Option (Instr × Nat × Nat × Nat × Nat)
  | [], _ => none
  | e :: t, pc => bif Nat.beq e.1 pc then some e.2 else am_lk t pc
def am_i1 (st : List Value) (q : Int32 → List Value → Prop) : Prop := match st with
  | .int x :: r => q x r
  | _ => False
def am_i2 (st : List Value) (q : Int32 → Int32 → List Value → Prop) : Prop := match st with
  | .int y :: .int x :: r => q x y r
  | _ => False
def am_j1 (st : List Value) (q : Int64 → List Value → Prop) : Prop := match st with
  | .long x :: r => q x r
  | _ => False
def am_j2 (st : List Value) (q : Int64 → Int64 → List Value → Prop) : Prop := match st with
  | .long y :: .long x :: r => q x y r
  | _ => False
def am_r1 (st : List Value) (q : Nat → List Value → Prop) : Prop := match st with
  | .ref x :: r => q x r
  | _ => False
theorem am_i1e {st : List Value} {q : Int32 → List Value → Prop} (h : am_i1 st q) : ∃ x r, st = .int x :: r ∧ q x r := by
  unfold am_i1 at h
  split at h
  · exact ⟨_, _, rfl, h⟩
  · exact h.elim
theorem am_i2e {st : List Value} {q : Int32 → Int32 → List Value → Prop} (h : am_i2 st q) : ∃ x y r, st = .int y :: .int x :: r ∧ q x y r := by
  unfold am_i2 at h
  split at h
  · exact ⟨_, _, _, rfl, h⟩
  · exact h.elim
theorem am_j1e {st : List Value} {q : Int64 → List Value → Prop} (h : am_j1 st q) : ∃ x r, st = .long x :: r ∧ q x r := by
  unfold am_j1 at h
  split at h
  · exact ⟨_, _, rfl, h⟩
  · exact h.elim
theorem am_j2e {st : List Value} {q : Int64 → Int64 → List Value → Prop} (h : am_j2 st q) : ∃ x y r, st = .long y :: .long x :: r ∧ q x y r := by
  unfold am_j2 at h
  split at h
  · exact ⟨_, _, _, rfl, h⟩
  · exact h.elim
theorem am_r1e {st : List Value} {q : Nat → List Value → Prop} (h : am_r1 st q) : ∃ x r, st = .ref x :: r ∧ q x r := by
  unfold am_r1 at h
  split at h
  · exact ⟨_, _, rfl, h⟩
  · exact h.elim
/-- a number out of the table's two places -/
def am_n (b a : Nat) (q : Int32 → Prop) : Prop := match b with
  | 0 => q (nI a)
  | _ => q (-nI a)
def am_nv (b a : Nat) : Int32 := match b with
  | 0 => nI a
  | _ => -nI a
theorem am_ne {b a : Nat} {q : Int32 → Prop} (h : am_n b a q) : q (am_nv b a) := by
  unfold am_n at h
  unfold am_nv
  split at h <;> exact h
def am_ld (loc : List (Option Value)) (i : Nat) (q : Value → Prop) : Prop := match loc[i]? with
  | some (some v) => q v
  | _ => False
theorem am_lde {loc : List (Option Value)} {i : Nat} {q : Value → Prop} (h : am_ld loc i q) : ∃ v, loc[i]? = some (some v) ∧ q v := by
  unfold am_ld at h
  split at h
  · next v hv => exact ⟨v, hv, h⟩
  · exact h.elim
def am_isI : Value → Bool
  | .int _ => true
  | _ => false
def am_isL : Value → Bool
  | .long _ => true
  | _ => false
def am_isR : Value → Bool
  | .ref _ => true
  | .retAddr _ => true
  | _ => false
theorem am_isIe {v : Value} (h : am_isI v = true) : ∃ x, v = .int x := by cases v <;> first | exact ⟨_, rfl⟩ | cases h
theorem am_isLe {v : Value} (h : am_isL v = true) : ∃ x, v = .long x := by cases v <;> first | exact ⟨_, rfl⟩ | cases h
theorem am_isRe {v : Value} (K : Am_X) (h : am_isR v = true) : ∃ x, am_v K v = .ref x := by cases v <;> first | exact ⟨_, rfl⟩ | cases h
/-- the array of ints, of bytes, of references at a handle -/
def am_ai (hp : List Am_C) (h : Nat) (q : Nat → (Nat → Int32) → Prop) : Prop := match hp[h]? with
  | some (.inl (0, n, .inl f)) => bif Nat.ble n 4096 then q n f else False
  | _ => False
def am_ab (hp : List Am_C) (h : Nat) (q : Nat → (Nat → Int32) → Prop) : Prop := match hp[h]? with
  | some (.inl (1, n, .inl f)) => bif Nat.ble n 4096 then q n f else False
  | _ => False
def am_ar (hp : List Am_C) (h : Nat) (q : Nat → Nat → (Nat → Option Nat) → Prop) : Prop := match hp[h]? with
  | some (.inl (t, n, .inr (.inr (.inr (.inr f))))) => bif Nat.ble n 4096 && (Nat.beq t 2 || Nat.beq t 3) then q t n f else False
  | _ => False
def am_ob (hp : List Am_C) (h : Nat) (q : Nat → List Value → Prop) : Prop := match hp[h]? with
  | some (.inr (ci, fs)) => q ci fs
  | _ => False
theorem am_aie {hp : List Am_C} {h : Nat} {q : Nat → (Nat → Int32) → Prop} (e : am_ai hp h q) : ∃ n f, hp[h]? = some (.inl (0, n, .inl f)) ∧ n ≤ 4096 ∧ q n f := by
  unfold am_ai at e
  split at e
  · next n f hv =>
    cases hb : Nat.ble n 4096 with
    | true => rw [hb] at e; exact ⟨n, f, hv, Nat.le_of_ble_eq_true hb, e⟩
    | false => rw [hb] at e; exact e.elim
  · exact e.elim
theorem am_abe {hp : List Am_C} {h : Nat} {q : Nat → (Nat → Int32) → Prop} (e : am_ab hp h q) : ∃ n f, hp[h]? = some (.inl (1, n, .inl f)) ∧ n ≤ 4096 ∧ q n f := by
  unfold am_ab at e
  split at e
  · next n f hv =>
    cases hb : Nat.ble n 4096 with
    | true => rw [hb] at e; exact ⟨n, f, hv, Nat.le_of_ble_eq_true hb, e⟩
    | false => rw [hb] at e; exact e.elim
  · exact e.elim
theorem am_are {hp : List Am_C} {h : Nat} {q : Nat → Nat → (Nat → Option Nat) → Prop} (e : am_ar hp h q) : ∃ t n f, hp[h]? = some (.inl (t, n, .inr (.inr (.inr (.inr f))))) ∧ n ≤ 4096 ∧ (t = 2 ∨ t = 3) ∧ q t n f := by
  unfold am_ar at e
  split at e
  · next t n f hv =>
    cases hb : Nat.ble n 4096 && (Nat.beq t 2 || Nat.beq t 3) with
    | true =>
      rw [hb] at e
      simp only [Bool.and_eq_true, Bool.or_eq_true] at hb
      exact ⟨t, n, f, hv, Nat.le_of_ble_eq_true hb.1, hb.2.imp Nat.eq_of_beq_eq_true Nat.eq_of_beq_eq_true, e⟩
    | false => rw [hb] at e; exact e.elim
  · exact e.elim
theorem am_obe {hp : List Am_C} {h : Nat} {q : Nat → List Value → Prop} (e : am_ob hp h q) : ∃ ci fs, hp[h]? = some (.inr (ci, fs)) ∧ q ci fs := by
  unfold am_ob at e
  split at e
  · next ci fs hv => exact ⟨ci, fs, hv, e⟩
  · exact e.elim
def am_t (b : Bool) (q : Prop) : Prop := bif b then q else False
theorem am_te {b : Bool} {q : Prop} (h : am_t b q) : b = true ∧ q := by
  unfold am_t at h
  cases b with
  | true => exact ⟨rfl, h⟩
  | false => exact h.elim
/-- a value fits a field -/
def am_fit : FieldType → Value → Bool
  | .int, .int _ => true
  | .long, .long _ => true
  | .object _, .ref _ => true
  | .array _, .ref _ => true
  | _, _ => false
theorem am_fite {K : Am_X} {ty : FieldType} {v : Value} (h : am_fit ty v = true) : narrow ty (am_v K v) = am_v K v ∧ fits ty (am_v K v) = true := by
  cases ty <;> cases v <;> first | exact ⟨rfl, rfl⟩ | cases h
/-- the static tables: numbers 0 to 3 -/
def am_tab (t : Nat) : Nat × (Nat → Int32) := match t with
  | 0 => (6, fun k => match k with | 0 => nI 98 | 1 => nI 99 | 2 => nI 102 | 3 => nI 108 | 4 => nI 116 | _ => nI 97)
  | 1 => (6, fun k => match k with | 0 => nI 0 | 1 => nI 0 | 2 => nI 0 | 3 => nI 0 | 4 => nI 1 | _ => nI 3)
  | 2 => (6, fun k => match k with | 0 => nI 1 | 1 => nI 1 | 2 => nI 1 | 3 => nI 1 | 4 => nI 3 | _ => nI 1)
  | _ => (6, fun k => match k with | 0 => nI 7 | 1 => nI 7 | 2 => nI 7 | 3 => nI 7 | 4 => nI 7 | _ => nI 4)
def am_tabN (t : Nat) : String := match t with
  | 0 => "LETTERS"
  | 1 => "ABOVE"
  | 2 => "LOWEST"
  | _ => "HIGHEST"
def am_sw (x : Int32) (pc : Nat) (q : Nat → Prop) : Int → List Int → Prop
  | _, [] => True
  | lo, o :: os => (x.toInt = lo → q ((pc : Int) + o).toNat) ∧ am_sw x pc q (lo + 1) os
def am_lsw (x : Int32) (pc : Nat) (q : Nat → Prop) (dflt : Int) : List (Int × Int) → Prop
  | [] => q ((pc : Int) + dflt).toNat
  | (a, o) :: r => (x.toInt = a → q ((pc : Int) + o).toNat) ∧ (¬ x.toInt = a → am_lsw x pc q dflt r)
def am_rok (rt : Option FieldType) (v : Int32) : Prop := match rt with
  | some .int => True
  | some .boolean => v = nI 0 ∨ v = nI 1
  | _ => False
/-- the locals' list, spelled out -/
def am_nf : List (Option Value) → (List (Option Value) → Prop) → Prop
  | [], q => q []
  | x :: l, q => am_nf l (fun l' => q (x :: l'))
theorem am_nfe : ∀ (l : List (Option Value)) {q : List (Option Value) → Prop}, am_nf l q → q l
  | [], _, h => h
  | x :: l, q, h => am_nfe l (q := fun l' => q (x :: l')) h
def am_cs (st : List Value) : Nat := (st.map fun v => v.category).sum
def am_has (loc : List (Option Value)) (i : Nat) (q : Prop) : Prop := match loc[i]? with
  | some _ => q
  | none => False
theorem am_hase {loc : List (Option Value)} {i : Nat} {q : Prop} (h : am_has loc i q) : i < loc.length ∧ q := by
  unfold am_has at h
  split at h
  · next v hv => exact ⟨(List.getElem?_eq_some_iff.mp hv).1, h⟩
  · exact h.elim
end
section
/-! ===== contracts over the abstract machine ===== -/
def am_tys (K : Am_X) : List (ClassId × FieldType) := [(K.2.1 (am_ft 0), am_ft 0), (K.2.1 (am_ft 1), am_ft 1), (K.2.1 (am_ft 2), am_ft 2), (K.2.1 (am_ft 3), am_ft 3)]
def am_Tb (K : Am_X) (A : Nat → Prop) (U : State) (H : Heap) : Prop := ∀ t, t < 4 → va_T .int (K.2.2.2 t) (am_tab t).1 (fun j => .int ((am_tab t).2 j)) A U H ∧ va_Z "ThingsThrown$Kinds" (am_tabN t) "[I" (.ref (K.2.2.2 t)) A U H
def am_Nx (U : State) : Prop := (∀ (o : String) (i : Nat) (y : MethodName) (h : String), .methodLinkNest o i y h ∈ am_nest → va_Nw (.methodLinkNest o i y h) U) ∧ va_AO "ThingsThrown$Sheet" U ∧ va_AO "ThingsThrown$Evening" U
theorem am_Nx.warm {s U : State} (hW : s.WarmedH U.vm) (h : am_Nx s) : am_Nx U := ⟨fun o i y q hq => va_Nw.warmM hW (h.1 o i y q hq), h.2.1.moved hW.alike, h.2.2.moved hW.alike⟩
def am_fr (K : Am_X) (hp : List Am_C) (sz : Nat) : Nat → Prop := va_A (am_w K hp) sz
def am_rdy (K : Am_X) (hp : List Am_C) (al : Bool) (sz : Nat) : Prop := al = true → ∀ k, hp.length ≤ k → K.2.2.1 k = sz + (k - hp.length)
def am_Pre (al : Bool) (K : Am_X) (hp : List Am_C) (sz : Nat) (U : State) : Prop := U.heap.size = sz ∧ va_P K.1 am_cl (am_w K hp) U.heap ∧ va_K K.1 am_cl (am_tys K) U ∧ va_D (fun _ => True) (am_w K hp) ∧ am_Tb K (am_fr K hp sz) U U.heap ∧ am_Nx U ∧ am_rdy K hp al sz
def am_Post (K : Am_X) (hp hp' : List Am_C) (sz : Nat) (r : Option Value) : Array Value → State → Outcome → State → Prop := fun _ st oc t => oc = .returned (r.map (am_v K)) ∧ va_P K.1 am_cl (am_w K hp') t.heap ∧ va_D (am_fr K hp sz) (am_w K hp') ∧ va_F (am_fr K hp sz) st t
def am_rm (d mc ms : Nat) : Room := { frames := d, cells := mc, slots := ms, locals := 40 * d }
def am_ws (mi : Nat) : List Cond := .code (am_m mi).1 (am_m mi).2.1 (am_m mi).2.2.1 (am_m mi).2.2.2.1 :: am_TB
/-- the contract: from these arguments and cells the method answers r and leaves these cells -/
def Am_Ev (al : Bool) (d mc ms mi : Nat) (args : List Value) (hp : List Am_C) (r : Option Value) (hp' : List Am_C) : Prop := ∀ (l : Launch) (K : Am_X) (sz : Nat), Met l (am_m mi).1 (am_ws mi) (am_rm d mc ms) (va_Pc (args.map (am_v K)) (am_Pre al K hp sz)) (am_Post K hp hp' sz r) mc ms (am_fr K hp sz)
def am_tag (a : Nat) : Nat := match a with
  | 4 => 2
  | _ => 3
def am_rcv (ci : Nat) (v : Option Value) (hp : List Am_C) : Bool := match v with
  | some (.ref h) => match hp[h]? with
    | some (.inr (c, _)) => Nat.beq c ci
    | _ => false
  | _ => false
def am_stp (d mc ms : Nat) (al ini : Bool) (rt : Option FieldType) (post : Option Value → List Am_C → Nat → Nat → Prop) (k : Am_K) (i : Instr) (nx a b c pc : Nat) (loc : List (Option Value)) (st : List Value) (hp : List Am_C) (nc ns : Nat) : Prop := match i with
  | .iconst _ => am_n b a (fun v => k nx loc (.int v :: st) hp nc ns)
  | .bipush _ => am_n b a (fun v => k nx loc (.int v :: st) hp nc ns)
  | .sipush _ => am_n b a (fun v => k nx loc (.int v :: st) hp nc ns)
  | .ldc _ => am_n b a (fun v => k nx loc (.int v :: st) hp nc ns)
  | .ldc_w _ => am_n b a (fun v => k nx loc (.int v :: st) hp nc ns)
  | .lconst _ => k nx loc (.long (lN a) :: st) hp nc ns
  | .ldc2_w _ => k nx loc (.long (lN a) :: st) hp nc ns
  | .iload j => am_ld loc j (fun v => am_t (am_isI v) (k nx loc (v :: st) hp nc ns))
  | .iload_n j => am_ld loc j (fun v => am_t (am_isI v) (k nx loc (v :: st) hp nc ns))
  | .lload j => am_ld loc j (fun v => am_t (am_isL v) (k nx loc (v :: st) hp nc ns))
  | .lload_n j => am_ld loc j (fun v => am_t (am_isL v) (k nx loc (v :: st) hp nc ns))
  | .aload j => am_ld loc j (fun v => am_t (am_isR v) (k nx loc (v :: st) hp nc ns))
  | .aload_n j => am_ld loc j (fun v => am_t (am_isR v) (k nx loc (v :: st) hp nc ns))
  | .istore j => am_i1 st (fun x r => am_has loc j (am_nf (am_s1 loc j (.int x)) (fun loc' => k nx loc' r hp nc ns)))
  | .istore_n j => am_i1 st (fun x r => am_has loc j (am_nf (am_s1 loc j (.int x)) (fun loc' => k nx loc' r hp nc ns)))
  | .lstore j => am_j1 st (fun x r => am_has loc (j + 1) (am_nf (am_s2 loc j (.long x)) (fun loc' => k nx loc' r hp nc ns)))
  | .lstore_n j => am_j1 st (fun x r => am_has loc (j + 1) (am_nf (am_s2 loc j (.long x)) (fun loc' => k nx loc' r hp nc ns)))
  | .astore j => am_r1 st (fun x r => am_has loc j (am_nf (am_s1 loc j (.ref x)) (fun loc' => k nx loc' r hp nc ns)))
  | .astore_n j => am_r1 st (fun x r => am_has loc j (am_nf (am_s1 loc j (.ref x)) (fun loc' => k nx loc' r hp nc ns)))
  | .iinc j _ => am_ld loc j (fun v => am_i1 [v] (fun x _ => am_n b a (fun z => am_nf (am_s1 loc j (.int (x + z))) (fun loc' => k nx loc' st hp nc ns))))
  | .iadd => am_i2 st (fun x y r => k nx loc (.int (x + y) :: r) hp nc ns)
  | .isub => am_i2 st (fun x y r => k nx loc (.int (x - y) :: r) hp nc ns)
  | .imul => am_i2 st (fun x y r => k nx loc (.int (x * y) :: r) hp nc ns)
  | .iand => am_i2 st (fun x y r => k nx loc (.int (x &&& y) :: r) hp nc ns)
  | .ior => am_i2 st (fun x y r => k nx loc (.int (x ||| y) :: r) hp nc ns)
  | .ixor => am_i2 st (fun x y r => k nx loc (.int (x ^^^ y) :: r) hp nc ns)
  | .ishl => am_i2 st (fun x y r => k nx loc (.int (x <<< (y &&& 31)) :: r) hp nc ns)
  | .ishr => am_i2 st (fun x y r => k nx loc (.int (x >>> (y &&& 31)) :: r) hp nc ns)
  | .iushr => am_i2 st (fun x y r => k nx loc (.int (x.toUInt32 >>> (y.toUInt32 &&& Int32.toUInt32 31)).toInt32 :: r) hp nc ns)
  | .idiv => am_i2 st (fun x y r => ¬ y = 0 ∧ k nx loc (.int (x / y) :: r) hp nc ns)
  | .irem => am_i2 st (fun x y r => ¬ y = 0 ∧ k nx loc (.int (x - x / y * y) :: r) hp nc ns)
  | .ladd => am_j2 st (fun x y r => k nx loc (.long (x + y) :: r) hp nc ns)
  | .lmul => am_j2 st (fun x y r => k nx loc (.long (x * y) :: r) hp nc ns)
  | .ldiv => am_j2 st (fun x y r => ¬ y = 0 ∧ k nx loc (.long (x / y) :: r) hp nc ns)
  | .lrem => am_j2 st (fun x y r => ¬ y = 0 ∧ k nx loc (.long (x - x / y * y) :: r) hp nc ns)
  | .lcmp => am_j2 st (fun x y r => k nx loc (.int (lg_cmp x y) :: r) hp nc ns)
  | .i2l => am_i1 st (fun x r => k nx loc (.long x.toInt64 :: r) hp nc ns)
  | .l2i => am_j1 st (fun x r => k nx loc (.int x.toInt32 :: r) hp nc ns)
  | .i2b => am_i1 st (fun x r => k nx loc (.int x.toInt8.toInt32 :: r) hp nc ns)
  | .dup => match st with
    | v :: r => am_t (Nat.beq v.category 1) (k nx loc (v :: v :: r) hp nc ns)
    | _ => False
  | .pop => match st with
    | v :: r => am_t (Nat.beq v.category 1) (k nx loc r hp nc ns)
    | _ => False
  | .dup2 => match st with
    | v :: w :: r => am_t (Nat.beq v.category 1 && Nat.beq w.category 1) (k nx loc (v :: w :: v :: w :: r) hp nc ns)
    | _ => False
  | .goto _ => k a loc st hp nc ns
  | .ifCond .eq _ => am_i1 st (fun x r => (x = 0 → k a loc r hp nc ns) ∧ (¬ x = 0 → k nx loc r hp nc ns))
  | .ifCond .ne _ => am_i1 st (fun x r => (¬ x = 0 → k a loc r hp nc ns) ∧ (x = 0 → k nx loc r hp nc ns))
  | .ifCond .lt _ => am_i1 st (fun x r => (x < 0 → k a loc r hp nc ns) ∧ (¬ x < 0 → k nx loc r hp nc ns))
  | .ifCond .ge _ => am_i1 st (fun x r => (0 ≤ x → k a loc r hp nc ns) ∧ (¬ 0 ≤ x → k nx loc r hp nc ns))
  | .ifCond .gt _ => am_i1 st (fun x r => (0 < x → k a loc r hp nc ns) ∧ (¬ 0 < x → k nx loc r hp nc ns))
  | .ifCond .le _ => am_i1 st (fun x r => (x ≤ 0 → k a loc r hp nc ns) ∧ (¬ x ≤ 0 → k nx loc r hp nc ns))
  | .if_icmp .eq _ => am_i2 st (fun x y r => (x = y → k a loc r hp nc ns) ∧ (¬ x = y → k nx loc r hp nc ns))
  | .if_icmp .ne _ => am_i2 st (fun x y r => (¬ x = y → k a loc r hp nc ns) ∧ (x = y → k nx loc r hp nc ns))
  | .if_icmp .lt _ => am_i2 st (fun x y r => (x < y → k a loc r hp nc ns) ∧ (¬ x < y → k nx loc r hp nc ns))
  | .if_icmp .ge _ => am_i2 st (fun x y r => (y ≤ x → k a loc r hp nc ns) ∧ (¬ y ≤ x → k nx loc r hp nc ns))
  | .if_icmp .gt _ => am_i2 st (fun x y r => (y < x → k a loc r hp nc ns) ∧ (¬ y < x → k nx loc r hp nc ns))
  | .if_icmp .le _ => am_i2 st (fun x y r => (x ≤ y → k a loc r hp nc ns) ∧ (¬ x ≤ y → k nx loc r hp nc ns))
  | .tableswitch dflt lo hi offs => am_i1 st (fun x r => (x.toInt < lo ∨ hi < x.toInt → k ((pc : Int) + dflt).toNat loc r hp nc ns) ∧ am_sw x pc (fun t => k t loc r hp nc ns) lo offs.toList)
  | .lookupswitch dflt ps => am_i1 st (fun x r => am_lsw x pc (fun t => k t loc r hp nc ns) dflt ps.toList)
  | .getfield _ => am_r1 st (fun h r => am_ob hp h (fun ci fs => am_t (Nat.beq ci a) (match fs[b]? with
    | some v => k nx loc (v :: r) hp nc ns
    | none => False)))
  | .putfield _ => match st with
    | v :: .ref h :: r => am_ob hp h (fun ci fs => am_t (Nat.beq ci a && Nat.blt b fs.length && am_fit (am_Y a b) v && (!am_F a b || ini)) (k nx loc r (hp.set h (.inr (ci, fs.set b v))) nc ns))
    | _ => False
  | .getstatic _ => k nx loc (.retAddr a :: st) hp nc ns
  | .iaload => match st with
    | .int i :: .ref h :: r => am_ai hp h (fun n f => ∃ j, j < n ∧ i = nI j ∧ k nx loc (.int (f j) :: r) hp nc ns)
    | .int i :: .retAddr t :: r => am_t (Nat.blt t 4) (∃ j, j < 6 ∧ i = nI j ∧ k nx loc (.int ((am_tab t).2 j) :: r) hp nc ns)
    | _ => False
  | .baload => match st with
    | .int i :: .ref h :: r => am_ab hp h (fun n f => ∃ j, j < n ∧ i = nI j ∧ k nx loc (.int (f j) :: r) hp nc ns)
    | _ => False
  | .aaload => match st with
    | .int i :: .ref h :: r => am_ar hp h (fun _ n f => ∃ j q, j < n ∧ i = nI j ∧ f j = some q ∧ k nx loc (.ref q :: r) hp nc ns)
    | _ => False
  | .iastore => match st with
    | .int x :: .int i :: .ref h :: r => am_ai hp h (fun n f => ∃ j, j < n ∧ i = nI j ∧ k nx loc r (hp.set h (.inl (0, n, .inl (upd f j x)))) nc ns)
    | _ => False
  | .bastore => match st with
    | .int x :: .int i :: .ref h :: r => am_ab hp h (fun n f => ∃ j, j < n ∧ i = nI j ∧ k nx loc r (hp.set h (.inl (1, n, .inl (upd f j x.toInt8.toInt32)))) nc ns)
    | _ => False
  | .aastore => match st with
    | .ref v :: .int i :: .ref h :: r => am_ar hp h (fun t n f => am_ob hp v (fun ci _ => am_t ((Nat.beq t 2 && Nat.beq ci 4) || (Nat.beq t 3 && Nat.beq ci 2)) (∃ j, j < n ∧ i = nI j ∧ k nx loc r (hp.set h (.inl (t, n, .inr (.inr (.inr (.inr (va_up f j (some v)))))))) nc ns)))
    | _ => False
  | .arraylength => am_r1 st (fun h r => match hp[h]? with
    | some (.inl (0, n, .inl _)) => k nx loc (.int (nI n) :: r) hp nc ns
    | some (.inl (t, n, .inr (.inr (.inr (.inr _))))) => am_t (Nat.beq t 2 || Nat.beq t 3) (k nx loc (.int (nI n) :: r) hp nc ns)
    | _ => False)
  | .invokevirtual _ => am_t (am_rcv c st[b - 1]? hp && Nat.ble (am_cs (st.drop b)) 8) (∃ (d' : Nat) (r : Option Value) (hp' : List Am_C), d' < d ∧ Am_Ev false d' 0 0 a (st.take b).reverse hp r hp' ∧ am_t (!al || Nat.beq hp'.length hp.length) (k nx loc (r.toList ++ st.drop b) hp' nc ns))
  | .invokestatic _ => bif Nat.beq a 9001 then (match st with
      | .int n :: .int dp :: .ref dst :: .int sp :: .ref src :: r => am_ai hp src (fun n0 f => am_ai hp dst (fun n1 g => am_t (Nat.ble (am_cs r) 8 && Nat.blt 0 d) (∃ n' dp' sp' : Nat, n = nI n' ∧ dp = nI dp' ∧ sp = nI sp' ∧ sp' + n' ≤ n0 ∧ dp' + n' ≤ n1 ∧ k nx loc r (hp.set dst (.inl (0, n1, .inl (va_cpy f g sp' dp' n')))) nc ns)))
      | _ => False)
    else bif Nat.beq a 9002 then am_i2 st (fun x y r => am_t (Nat.ble (am_cs r) 8 && Nat.blt 0 d) (k nx loc (.int (if x < y then y else x) :: r) hp nc ns))
    else bif Nat.beq a 9003 then am_i2 st (fun x y r => am_t (Nat.ble (am_cs r) 8 && Nat.blt 0 d) (k nx loc (.int (if y < x then y else x) :: r) hp nc ns))
    else am_t (Nat.ble b st.length && Nat.ble (am_cs (st.drop b)) 8) (∃ (d' : Nat) (r : Option Value) (hp' : List Am_C), d' < d ∧ Am_Ev false d' 0 0 a (st.take b).reverse hp r hp' ∧ am_t (!al || Nat.beq hp'.length hp.length) (k nx loc (r.toList ++ st.drop b) hp' nc ns))
  | .invokespecial _ => bif Nat.beq a 9000 then am_r1 st (fun _ r => am_t (Nat.ble (am_cs r) 8 && Nat.blt 0 d) (k nx loc r hp nc ns))
    else am_t (am_rcv c st[b - 1]? hp && Nat.ble (am_cs (st.drop b)) 8) (∃ (al' : Bool) (d' mc' ms' : Nat) (hp' : List Am_C), (al' = true → al = true) ∧ d' < d ∧ nc + mc' ≤ mc ∧ ns + ms' ≤ ms ∧ Am_Ev al' d' mc' ms' a (st.take b).reverse hp none hp' ∧ am_t (Nat.beq hp'.length (hp.length + mc')) (k nx loc (st.drop b) hp' (nc + mc') (ns + ms')))
  | .new _ => am_t (al && Nat.ble (nc + 1) mc && Nat.ble (ns + b) ms && Nat.blt a 8) (k nx loc (.ref hp.length :: st) (hp ++ [.inr (a, am_dv a)]) (nc + 1) (ns + b))
  | .newarray .int => am_i1 st (fun x r => ∃ n, x = nI n ∧ am_t (al && Nat.ble n 4096 && Nat.ble (nc + 1) mc && Nat.ble (ns + n) ms) (k nx loc (.ref hp.length :: r) (hp ++ [.inl (0, n, .inl (fun _ => 0))]) (nc + 1) (ns + n)))
  | .newarray .byte => am_i1 st (fun x r => ∃ n, x = nI n ∧ am_t (al && Nat.ble n 4096 && Nat.ble (nc + 1) mc && Nat.ble (ns + n) ms) (k nx loc (.ref hp.length :: r) (hp ++ [.inl (1, n, .inl (fun _ => 0))]) (nc + 1) (ns + n)))
  | .anewarray _ => am_i1 st (fun x r => ∃ n, x = nI n ∧ am_t (al && Nat.ble n 4096 && Nat.ble (nc + 1) mc && Nat.ble (ns + n) ms) (k nx loc (.ref hp.length :: r) (hp ++ [.inl (am_tag a, n, .inr (.inr (.inr (.inr (fun _ => none)))))]) (nc + 1) (ns + n)))
  | .ireturn => match rt, st with
    | some .int, [.int v] => post (some (.int v)) hp nc ns
    | some .boolean, [.int v] => (v = nI 0 ∨ v = nI 1) ∧ post (some (.int v)) hp nc ns
    | _, _ => False
  | .lreturn => match rt, st with
    | some .long, [.long v] => post (some (.long v)) hp nc ns
    | _, _ => False
  | .return_ => match rt, st with
    | none, [] => post none hp nc ns
    | _, _ => False
  | _ => False
def am_blk (cd : List Am_E) (cuts : List Nat) (d mc ms : Nat) (al ini : Bool) (rt : Option FieldType) (post : Option Value → List Am_C → Nat → Nat → Prop) (Go : Am_K) : Nat → Am_K
  | 0 => fun _ _ _ _ _ _ => False
  | n + 1 => fun pc loc st hp nc ns => match am_lk cd pc with
    | none => False
    | some (i, nx, a, b, c) => am_stp d mc ms al ini rt post (fun pc' loc' st' hp' nc' ns' => bif cuts.elem pc' then Go pc' loc' st' hp' nc' ns' else am_blk cd cuts d mc ms al ini rt post Go n pc' loc' st' hp' nc' ns') i nx a b c pc loc st hp nc ns
end
section
/-! ===== a code table's rows, and what else the machine needs of the tables ===== -/
set_option maxRecDepth 20000 in
theorem am_obj_ok : Cond.instanceMethod Lib.objectInit ∈ am_TB ∧ Cond.code Lib.objectInit ⟨#[0xb1]⟩ 1 none ∈ am_TB ∧ Cond.native arraycopyName ∈ am_TB ∧ Cond.static arraycopyName ∈ am_TB ∧ Cond.initialized "java/lang/System" ∈ am_TB ∧ Cond.arrayClass .int ∈ am_TB ∧ Cond.arrayClass .byte ∈ am_TB := by decide +kernel
set_option maxRecDepth 20000 in
theorem am_mth_ok : Cond.static Lib.Math.max.name ∈ am_TB ∧ Cond.initialized "java/lang/Math" ∈ am_TB ∧ Cond.code Lib.Math.max.name Lib.Math.max.code 2 (some .int) ∈ am_TB ∧ Cond.static Lib.Math.min.name ∈ am_TB ∧ Cond.code Lib.Math.min.name Lib.Math.min.code 2 (some .int) ∈ am_TB := by decide +kernel
def am_clC (ci : Nat) (q : vw_C) : Bool := (u_ws q.1 q.2.1 q.2.2).all (fun w => decide (w ∈ am_TB)) && ((List.range q.2.2).all (fun k => decide (parseFieldDescriptor (q.2.1 k).2.2.1 = some (am_Y ci k)) && (decide (am_F ci k = (q.2.1 k).2.2.2) && (decide ((q.2.1 k).1 = q.1) && ((List.range q.2.2).all (fun j => decide (k = j) || decide ((q.2.1 k).2.1 ≠ (q.2.1 j).2.1)) && decide (defaultValue (am_Y ci k) = vp_V (am_dv ci) k))))) && (decide (Cond.instantiable q.1 q.2.2 ∈ am_TB) && (decide (Cond.initialized q.1 ∈ am_TB) && (decide (am_own ci = q.1) && decide ((am_dv ci).length = q.2.2 ∧ (am_dv ci).all (fun v => match v with | .ref _ => false | .retAddr _ => false | _ => true) = true)))))
set_option maxRecDepth 20000 in
theorem am_cl_ok : am_cl.zipIdx.all (fun q => am_clC q.2 q.1) = true := by decide +kernel
theorem am_cl_at {ci : Nat} {q : vw_C} (h : am_cl[ci]? = some q) : am_clC ci q = true := by
  have h1 := List.all_eq_true.mp am_cl_ok (q, ci) (List.mem_of_getElem? (i := ci) (by rw [List.getElem?_zipIdx, h]; simp))
  exact h1
theorem am_cl_ws {ci : Nat} {C : String} {T : u_T} {N : Nat} (h : am_cl[ci]? = some (C, T, N)) : ∀ w ∈ u_ws C T N, w ∈ am_TB := by
  have h1 := am_cl_at h
  simp only [am_clC, Bool.and_eq_true, List.all_eq_true, decide_eq_true_eq] at h1
  exact h1.1
theorem am_cl_f {ci : Nat} {C : String} {T : u_T} {N : Nat} (h : am_cl[ci]? = some (C, T, N)) {k : Nat} (hk : k < N) : parseFieldDescriptor (T k).2.2.1 = some (am_Y ci k) ∧ am_F ci k = (T k).2.2.2 ∧ (T k).1 = C ∧ (∀ j, j < N → k ≠ j → (T k).2.1 ≠ (T j).2.1) ∧ defaultValue (am_Y ci k) = vp_V (am_dv ci) k := by
  have h1 := am_cl_at h
  simp only [am_clC, Bool.and_eq_true, List.all_eq_true, decide_eq_true_eq, Bool.or_eq_true, List.mem_range] at h1
  obtain ⟨a1, a2, a3, a4, a5⟩ := h1.2.1 k hk
  exact ⟨a1, a2, a3, fun j hj hne => (a4 j hj).resolve_left hne, a5⟩
theorem am_cl_g {ci : Nat} {C : String} {T : u_T} {N : Nat} (h : am_cl[ci]? = some (C, T, N)) : Cond.instantiable C N ∈ am_TB ∧ Cond.initialized C ∈ am_TB ∧ am_own ci = C ∧ (am_dv ci).length = N ∧ (am_dv ci).all (fun v => match v with | .ref _ => false | .retAddr _ => false | _ => true) = true := by
  have h1 := am_cl_at h
  simp only [am_clC, Bool.and_eq_true, decide_eq_true_eq] at h1
  exact ⟨h1.2.2.1, h1.2.2.2.1, h1.2.2.2.2.1, h1.2.2.2.2.2⟩
theorem am_cl_lt {ci : Nat} (h : ci < 8) : ∃ q, am_cl[ci]? = some q := by
  have h1 : am_cl.length = 8 := rfl
  exact ⟨_, List.getElem?_eq_getElem (by omega)⟩
def am_len : Instr → Nat
  | .iconst _ => 1 | .bipush _ => 2 | .sipush _ => 3 | .ldc _ => 2 | .ldc_w _ => 3 | .lconst _ => 1 | .ldc2_w _ => 3
  | .iload _ => 2 | .iload_n _ => 1 | .lload _ => 2 | .lload_n _ => 1 | .aload _ => 2 | .aload_n _ => 1
  | .istore _ => 2 | .istore_n _ => 1 | .lstore _ => 2 | .lstore_n _ => 1 | .astore _ => 2 | .astore_n _ => 1
  | .iinc _ _ => 3 | .goto _ => 3 | .ifCond _ _ => 3 | .if_icmp _ _ => 3 | .tableswitch _ _ _ _ => 0 | .lookupswitch _ _ => 0
  | .getfield _ => 3 | .putfield _ => 3 | .getstatic _ => 3 | .invokevirtual _ => 3 | .invokestatic _ => 3 | .invokespecial _ => 3
  | .new _ => 3 | .newarray _ => 2 | .anewarray _ => 3
  | _ => 1
def am_okD (cc : ByteArray) (e : Am_E) : Bool := match am_len e.2.1 with
  | 0 => decide (decode cc e.1 = .ok (e.2.1, e.2.2.1 - e.1))
  | n + 1 => decide (e.2.2.1 = e.1 + (n + 1)) && decide (decode cc e.1 = .ok (e.2.1, n + 1))
theorem am_okDe {cc : ByteArray} {pc : Nat} {i : Instr} {nx : Nat} {q : Nat × Nat × Nat} (h : am_okD cc (pc, i, nx, q) = true) (n : Nat) (hn : am_len i = n + 1) : nx = pc + (n + 1) ∧ decode cc pc = .ok (i, n + 1) := by
  unfold am_okD at h
  simp only [hn, Bool.and_eq_true, decide_eq_true_eq] at h
  exact h
theorem am_okD0 {cc : ByteArray} {pc : Nat} {i : Instr} {nx : Nat} {q : Nat × Nat × Nat} (h : am_okD cc (pc, i, nx, q) = true) (hn : am_len i = 0) : decode cc pc = .ok (i, nx - pc) := by
  unfold am_okD at h
  simp only [hn, decide_eq_true_eq] at h
  exact h
/-- what else a row of a code table has to be -/
def am_okX (oc : Nat) (e : Am_E) : Bool := match e with
  | (pc, i, nx, a, b, c) => match i with
    | .iconst n => decide (Int32.ofInt n = am_nv b a)
    | .bipush n => decide ((Int8.ofInt n).toInt32 = am_nv b a)
    | .sipush n => decide ((Int16.ofInt n).toInt32 = am_nv b a)
    | .iinc _ n => decide (Int32.ofInt n = am_nv b a)
    | .lconst n => decide ((n : Nat) = a)
    | .ldc n => decide (Cond.constant (am_own oc) n (am_nv b a) ∈ am_TB)
    | .ldc_w n => decide (Cond.constant (am_own oc) n (am_nv b a) ∈ am_TB)
    | .ldc2_w n => decide (Cond.constantLong (am_own oc) n (lN a) ∈ am_TB)
    | .goto o => decide ((pc : Int) + o = (a : Int))
    | .ifCond _ o => decide ((pc : Int) + o = (a : Int))
    | .if_icmp _ o => decide ((pc : Int) + o = (a : Int))
    | .tableswitch d lo hi offs => decide (0 ≤ (pc : Int) + d) && (offs.toList.all (fun o => decide (0 ≤ (pc : Int) + o)) && decide (hi - lo + 1 = (offs.toList.length : Int)))
    | .lookupswitch d ps => decide (0 ≤ (pc : Int) + d) && (ps.toList.all (fun o => decide (0 ≤ (pc : Int) + o.2)) && (ps.toList.zip (ps.toList.drop 1)).all (fun (a, next) => a.1 < next.1))
    | .getfield n => am_fl.elem (oc, n, a, b)
    | .putfield n => am_fl.elem (oc, n, a, b) && (!am_F a b || Nat.beq a oc)
    | .getstatic n => decide (a < 4) && decide (Cond.fieldLink (am_own oc) n "ThingsThrown$Kinds" (am_tabN a) "[I" ∈ am_TB)
    | .invokevirtual n => am_mk.elem (oc, n, a, b, c, 0) && decide (0 < b)
    | .invokestatic n => bif Nat.beq a 9001 then am_mk.elem (oc, n, a, b, c, 4) else bif Nat.beq a 9002 then am_mk.elem (oc, n, a, b, c, 6) else bif Nat.beq a 9003 then am_mk.elem (oc, n, a, b, c, 7) else am_mk.elem (oc, n, a, b, c, 1)
    | .invokespecial n => bif Nat.beq a 9000 then am_mk.elem (oc, n, a, b, c, 3) else (am_mk.elem (oc, n, a, b, c, 2) || am_mk.elem (oc, n, a, b, c, 5)) && decide (0 < b)
    | .new n => decide (Cond.classLink (am_own oc) n (am_own a) ∈ am_TB) && decide ((am_dv a).length = b)
    | .anewarray n => decide (Cond.classLink (am_own oc) n (am_own a) ∈ am_TB) && decide (a = 4 ∨ a = 2)
    | _ => true
def am_okE (oc : Nat) (cc : ByteArray) (e : Am_E) : Bool := am_okD cc e && am_okX oc e
theorem am_lk_in : ∀ {cd : List Am_E} {pc : Nat} {r : Instr × Nat × Nat × Nat × Nat}, am_lk cd pc = some r → (pc, r) ∈ cd
  | [], pc, r, h => by simp [am_lk] at h
  | e :: t, pc, r, h => by
    unfold am_lk at h
    cases hb : Nat.beq e.1 pc with
    | true =>
      rw [hb] at h
      have h1 : some e.2 = some r := h
      cases h1
      have h2 := Nat.eq_of_beq_eq_true hb
      subst h2
      exact List.mem_cons_self
    | false =>
      rw [hb] at h
      exact List.mem_cons_of_mem _ (am_lk_in h)
end
section
/-! ===== the abstract machine is sound: what it asks of an instruction is what the machine does ===== -/
def am_Cx (K : Am_X) (A : Nat → Prop) (p : Program) (s : State) (m : MethodId) (args : Array Value) (meth : Method) (c : Code) (oc nL : Nat) (cc : ByteArray) (rt : Option FieldType) (ini : Bool) : Prop :=
  p.tables.exec = Jvm.exec ∧ c.code = cc ∧ c.maxLocals = nL ∧ meth.sig.returnType = rt ∧ meth.locks = false ∧ s.vm.findClass (am_own oc) = some m.cls ∧ (∀ w ∈ am_TB, w.before args s = true) ∧ va_K K.1 am_cl (am_tys K) s ∧ am_Tb K A s s.heap ∧ (∀ q, s.heap.size ≤ q → A q) ∧ am_Nx s ∧ (ini = true → meth.name = "<init>")
def am_Al (K : Am_X) (s : State) (al : Bool) (h0 mc ms : Nat) (hp : List Am_C) (nc ns : Nat) : Prop := (nc ≤ mc ∧ ns ≤ ms) ∧ (al = true → hp.length = h0 + nc ∧ ∀ k, h0 ≤ k → K.2.2.1 k = s.heap.size + (k - h0))
def am_Go (K : Am_X) (A : Nat → Prop) (p : Program) (l : Launch) (e : Env) (s : State) (m : MethodId) (args : Array Value) (below : List Frame) (meth : Method) (c : Code) (nL : Nat) (al : Bool) (h0 d mc ms : Nat) (Q : State → Prop) : Am_K := fun pc loc st hp nc ns =>
  ∀ (ls : Array Slot) (H : Heap) (locs : List Loc), am_R K ls nL loc → va_P K.1 am_cl (am_w K hp) H → va_D A (am_w K hp) → va_S A s.heap H locs → am_Al K s al h0 mc ms hp nc ns → W p l e (am_rm d mc ms) s m args below meth c H locs nc ns Q (F0 m pc ls (st.map (am_v K)))
theorem am_tab6 (t : Nat) : (am_tab t).1 = 6 := by
  unfold am_tab
  split <;> rfl
theorem am_Al.set {K : Am_X} {s : State} {al : Bool} {h0 mc ms : Nat} {hp : List Am_C} {nc ns h : Nat} {c : Am_C} (hal : am_Al K s al h0 mc ms hp nc ns) : am_Al K s al h0 mc ms (hp.set h c) nc ns := ⟨hal.1, fun q => by
  rw [List.length_set]
  exact hal.2 q⟩
theorem am_W_size {p : Program} {l : Launch} {e : Env} {R : Room} {s : State} {m : MethodId} {args : Array Value} {below : List Frame} {meth : Method} {c : Code} {H : Heap} {locs : List Loc} {cells slots : Nat} {Q : State → Prop} {g : JFrame} (kk : H.size ≤ s.heap.size + cells → W p l e R s m args below meth c H locs cells slots Q g) : W p l e R s m args below meth c H locs cells slots Q g := by
  intro T hT X
  have h1 : (T.setVm s.vm).heap.size ≤ s.heap.size + cells := X.same.2.2.1
  have h2 : (T.setVm s.vm).heap = H := hT
  rw [h2] at h1
  exact kk h1 T hT X
theorem am_size {K : Am_X} {A : Nat → Prop} {s : State} {h0 : Nat} {hp : List Am_C} {nc : Nat} {H : Heap} {locs : List Loc} (hP : va_P K.1 am_cl (am_w K hp) H) (hS : va_S A s.heap H locs) (hal : hp.length = h0 + nc ∧ ∀ k, h0 ≤ k → K.2.2.1 k = s.heap.size + (k - h0)) (hle : H.size ≤ s.heap.size + nc) : H.size = K.2.2.1 hp.length := by
  have h1 : K.2.2.1 hp.length = s.heap.size + nc := by rw [hal.2 hp.length (by omega)]; omega
  rw [h1]
  refine Nat.le_antisymm hle ?_
  by_cases hn : nc = 0
  · subst hn
    exact hS.1
  · have hlt : hp.length - 1 < hp.length := by omega
    have h2 := (hP (hp.length - 1) _ (am_w_at (List.getElem?_eq_getElem hlt))).lt
    have h3 : K.2.2.1 (hp.length - 1) = s.heap.size + (hp.length - 1 - h0) := hal.2 _ (by omega)
    have h4 : K.2.2.1 (hp.length - 1) < H.size := h2
    omega
section AMS
variable {p : Program} {l : Launch} {e : Env} {s : State} {m : MethodId} {args : Array Value} {below : List Frame} {meth : Method} {c : Code} {K : Am_X} {A : Nat → Prop} {oc nL h0 : Nat} {cc : ByteArray} {rt : Option FieldType} {ini al : Bool} {d mc ms : Nat} {Q : State → Prop}
variable {pc : Nat} {loc : List (Option Value)} {st : List Value} {hp : List Am_C} {nc ns : Nat} {ls : Array Slot} {H : Heap} {locs : List Loc}
/-- a contract is used at a call: the world of the callee is the caller's own -/
theorem am_pre {al' : Bool} {hp : List Am_C} (X : am_Cx K A p s m args meth c oc nL cc rt ini) (hP : va_P K.1 am_cl (am_w K hp) H) (hD : va_D A (am_w K hp)) (hS : va_S A s.heap H locs) (hr : al' = true → ∀ k, hp.length ≤ k → K.2.2.1 k = H.size + (k - hp.length)) (av : List Value) : ∀ U : State, U.heap = H → s.WarmedH U.vm → va_Pc av (am_Pre al' K hp H.size) av.toArray U := by
  obtain ⟨hx, hb, hml, hrt, hlocks, hown, hts, hK, hTb, hA, hNx, hini⟩ := X
  intro U hU hW
  refine ⟨rfl, by rw [hU], by rw [hU]; exact hP, va_K.moved hW.alike hK, hD.weaken (fun _ _ _ _ => trivial), fun t ht => ?_, hNx.warm hW, hr⟩
  have hsub : ∀ q, am_fr K hp H.size q → A q := by
    intro q hq
    rcases hq with ⟨k, e, h⟩ | h
    · exact hD.2 k (q, e) h
    · exact hA q (Nat.le_trans hS.1 h)
  have hkp : ∀ a : Nat, a < s.heap.size → ¬ A a → U.heap[a]? = s.heap[a]? := fun a h1 h2 => by rw [hU]; exact hS.2.1 a h1 h2
  exact ⟨((((hTb t ht).1.kept hkp).moved hW.alike).narrow hsub), ((((hTb t ht).2.kept hkp).moved hW.alike).narrow hsub)⟩
theorem am_blind {al' : Bool} {hp : List Am_C} {sz : Nat} (av : List Value) : FrameBlind (va_Pc av (am_Pre al' K hp sz)) := by
  intro a U g mk q
  obtain ⟨q0, q1, qP, qK, qD, qT, qN, qr⟩ := q
  have hal : U.vm.Alike (U.calling g mk a).vm := Vm.Alike.refl U.vm
  refine ⟨q0, q1, qP, va_K.moved (u := U) (U := U.calling g mk a) hal qK, qD, fun t ht => ⟨(qT t ht).1.moved hal, (qT t ht).2.moved hal⟩, ?_, qr⟩
  exact ⟨fun o i y h hh => va_Nw.same rfl (show U.vm = (U.calling g mk a).vm from rfl) (qN.1 o i y h hh), qN.2.1.moved hal, qN.2.2.moved hal⟩
/-- behind a call -/
theorem am_after {mc' ms' : Nat} {hp hp' : List Am_C} {r : Option Value} {rest st0 : List Value} {a : Array Value} (X : am_Cx K A p s m args meth c oc nL cc rt ini) (hP : va_P K.1 am_cl (am_w K hp) H) (hD : va_D A (am_w K hp)) (hS : va_S A s.heap H locs)
    (hr : va_Run p l e (am_rm d mc ms) s m args below meth c H locs nc ns mc' ms' (F0 m pc ls st0) (rest.map (am_v K)) (am_Post K hp hp' H.size r a) (am_fr K hp H.size))
    (kk : ∀ (H1 : Heap) (locs1 : List Loc), va_P K.1 am_cl (am_w K hp') H1 → va_D A (am_w K hp') → va_S A s.heap H1 locs1 → W p l e (am_rm d mc ms) s m args below meth c H1 locs1 (nc + mc') (ns + ms') Q (F0 m (pc + 3) ls ((r.toList ++ rest).map (am_v K)))) :
    W p l e (am_rm d mc ms) s m args below meth c H locs nc ns Q (F0 m pc ls st0) := by
  obtain ⟨hx, hb, hml, hrt, hlocks, hown, hts, hK, hTb, hA, hNx, hini⟩ := X
  have hsub : ∀ q, am_fr K hp H.size q → A q := by
    intro q hq
    rcases hq with ⟨k, e, h⟩ | h
    · exact hD.2 k (q, e) h
    · exact hA q (Nat.le_trans hS.1 h)
  intro T hT Y
  obtain ⟨v, st₀, t, T', L, h0, Y', hL, e1, e2, ⟨hv, hP1, hD1, hz, hkp⟩, stp⟩ := hr T hT Y
  have hv' : v = r.map (am_v K) := by
    injection hv
  rw [h0] at hz hkp
  have hS1 : va_S A s.heap T'.heap (locs ++ L) := by
    refine ⟨Nat.le_trans hS.1 (by rw [e1]; exact hz), fun q h1 h2 => ?_, fun q hq => ?_⟩
    · rw [e1, hkp q (Nat.lt_of_lt_of_le h1 hS.1) (fun z => h2 (hsub q z))]
      exact hS.2.1 q h1 h2
    · rcases List.mem_append.mp hq with h | h
      · exact hS.2.2 q h
      · exact hsub _ (hL q h)
  obtain ⟨t2, a1, b1⟩ := kk T'.heap (locs ++ L) (by rw [e1]; exact hP1) (hD1.weaken (fun k q _ h => hsub q.1 h)) hS1 T' rfl Y'
  refine ⟨t2, stp t2 ?_, b1⟩
  have he : v.toList ++ rest.map (am_v K) = (r.toList ++ rest).map (am_v K) := by
    rw [hv']
    cases r <;> simp
  show Steps p.tables e below (T'.setTop { (F0 m pc ls st0) with pc := pc + 3, stack := v.toList ++ rest.map (am_v K) }) t2
  rw [he]
  exact a1
end AMS
end
section
def am_grp : Instr → Nat
  | .getfield _ => 1 | .putfield _ => 1 | .getstatic _ => 1 | .iaload => 1 | .baload => 1 | .aaload => 1 | .iastore => 1 | .bastore => 1 | .aastore => 1 | .arraylength => 1
  | .invokevirtual _ => 2 | .invokestatic _ => 2 | .invokespecial _ => 2 | .new _ => 2 | .newarray _ => 2 | .anewarray _ => 2 | .ireturn => 2 | .lreturn => 2 | .return_ => 2
  | _ => 0
section AMT
variable {p : Program} {l : Launch} {e : Env} {s : State} {m : MethodId} {args : Array Value} {below : List Frame} {meth : Method} {c : Code} {K : Am_X} {A : Nat → Prop} {oc nL h0 : Nat} {cc : ByteArray} {rt : Option FieldType} {ini al : Bool} {d mc ms : Nat} {Q : State → Prop}
variable {pc : Nat} {loc : List (Option Value)} {st : List Value} {hp : List Am_C} {nc ns : Nat} {ls : Array Slot} {H : Heap} {locs : List Loc}
variable {post : Option Value → List Am_C → Nat → Nat → Prop} {k : Am_K}
theorem am_set_i {h n j : Nat} {f : Nat → Int32} {t : Nat} {x : Int32} (hj : j < n) (hn : n ≤ 4096) : (am_w K hp).set h (K.2.2.1 h, .inl (K.2.1 (am_ft t), n, .inl (upd f (nI j).toNatClampNeg x))) = am_w K (hp.set h (.inl (t, n, .inl (upd f j x)))) := by
  rw [nI_clamp (by omega)]
  exact am_w_set (c := .inl (t, n, .inl (upd f j x)))
theorem am_set_o {h ci b : Nat} {fs : List Value} {v : Value} : (am_w K hp).set h (K.2.2.1 h, .inr (ci, (fs.map (am_v K)).set b (am_v K v))) = am_w K (hp.set h (.inr (ci, fs.set b v))) := by
  rw [← List.map_set]
  exact am_w_set (c := .inr (ci, fs.set b v))
theorem am_tysAt {t : Nat} (h : t < 4) : (am_tys K)[t]? = some (K.2.1 (am_ft t), am_ft t) := by
  rcases (show t = 0 ∨ t = 1 ∨ t = 2 ∨ t = 3 by omega) with rfl | rfl | rfl | rfl <;> rfl
theorem am_sw_at {x : Int32} {q : Nat → Prop} : ∀ {os : List Int} {lo : Int}, am_sw x pc q lo os → ∀ (j : Nat) (o : Int), os[j]? = some o → x.toInt = lo + j → q ((pc : Int) + o).toNat
  | [], _, _, j, o, ho, _ => by simp at ho
  | o' :: os, lo, h, 0, o, ho, hx => by
    simp at ho
    subst ho
    exact h.1 (by simpa using hx)
  | o' :: os, lo, h, j + 1, o, ho, hx => by
    have ho' : os[j]? = some o := by simpa using ho
    exact am_sw_at h.2 j o ho' (by rw [hx]; push_cast; omega)
theorem am_lsw_at {x : Int32} {q : Nat → Prop} {dflt : Int} : ∀ {ps : List (Int × Int)}, am_lsw x pc q dflt ps → q ((pc : Int) + Op.lookupswitch.offset ps dflt x.toInt).toNat
  | [], h => by
    rw [show Op.lookupswitch.offset [] dflt x.toInt = dflt from rfl]
    exact h
  | (a, o) :: r, h => by
    rw [Op.lookupswitch.offset_cons]
    by_cases hx : x.toInt = a
    · first
        | (rw [if_pos hx]; exact h.1 hx)
        | (rw [if_pos (by simp [hx])]; exact h.1 hx)
        | (rw [if_pos hx.symm]; exact h.1 hx)
    · first
        | (rw [if_neg hx]; exact am_lsw_at (h.2 hx))
        | (rw [if_neg (by simp [hx])]; exact am_lsw_at (h.2 hx))
        | (rw [if_neg (Ne.symm hx)]; exact am_lsw_at (h.2 hx))
theorem am_lsw_in {x : Int} {d : Int} : ∀ {ps : List (Int × Int)}, Op.lookupswitch.offset ps d x = d ∨ ∃ q ∈ ps, Op.lookupswitch.offset ps d x = q.2
  | [] => Or.inl rfl
  | (a, o) :: r => by
    rw [Op.lookupswitch.offset_cons]
    split
    · exact Or.inr ⟨(a, o), List.mem_cons_self, rfl⟩
    · rcases am_lsw_in (x := x) (d := d) (ps := r) with h | ⟨q, hq, h⟩
      · exact Or.inl h
      · exact Or.inr ⟨q, List.mem_cons_of_mem _ hq, h⟩
set_option maxHeartbeats 4000000 in
theorem am_okS {nx a b c' : Nat} {i : Instr} (X : am_Cx K A p s m args meth c oc nL cc rt ini) (hE : am_okE oc cc (pc, i, nx, a, b, c') = true)
    (hk : ∀ pc loc st hp nc ns, k pc loc st hp nc ns → am_Go K A p l e s m args below meth c nL al h0 d mc ms Q pc loc st hp nc ns)
    (h : am_stp d mc ms al ini rt post k i nx a b c' pc loc st hp nc ns) (hgrp : am_grp i = 0) :
    am_Go K A p l e s m args below meth c nL al h0 d mc ms Q pc loc st hp nc ns := by
  obtain ⟨hx, hb, hml, hrt, hlocks, hown, hts, hK, hTb, hA, hNx, hini⟩ := id X
  unfold am_okE at hE
  rw [Bool.and_eq_true] at hE
  obtain ⟨hE1, hE2⟩ := hE
  intro ls H locs hl hP hD hS hal
  cases i with
  | iconst n =>
    obtain ⟨rfl, hd⟩ := am_okDe hE1 0 rfl
    have h : am_n b a (fun v => k _ loc (.int v :: st) hp nc ns) := h
    have h := am_ne h
    exact lv_iconst hx hb hd (of_decide_eq_true hE2) (hk _ _ _ _ _ _ h ls H locs hl hP hD hS hal)
  | bipush n =>
    obtain ⟨rfl, hd⟩ := am_okDe hE1 1 rfl
    have h : am_n b a (fun v => k _ loc (.int v :: st) hp nc ns) := h
    have h := am_ne h
    exact lv_bipush hx hb hd (of_decide_eq_true hE2) (hk _ _ _ _ _ _ h ls H locs hl hP hD hS hal)
  | sipush n =>
    obtain ⟨rfl, hd⟩ := am_okDe hE1 2 rfl
    have h : am_n b a (fun v => k _ loc (.int v :: st) hp nc ns) := h
    have h := am_ne h
    exact lv_sipush hx hb hd (of_decide_eq_true hE2) (hk _ _ _ _ _ _ h ls H locs hl hP hD hS hal)
  | ldc n =>
    obtain ⟨rfl, hd⟩ := am_okDe hE1 1 rfl
    have hE3 : decide (Cond.constant (am_own oc) n (am_nv b a) ∈ am_TB) = true := hE2
    have h : am_n b a (fun v => k _ loc (.int v :: st) hp nc ns) := h
    have h := am_ne h
    exact lv_ldc hx hb hown (hts _ (of_decide_eq_true hE3)) hd (hk _ _ _ _ _ _ h ls H locs hl hP hD hS hal)
  | ldc_w n =>
    obtain ⟨rfl, hd⟩ := am_okDe hE1 2 rfl
    have hE3 : decide (Cond.constant (am_own oc) n (am_nv b a) ∈ am_TB) = true := hE2
    have h : am_n b a (fun v => k _ loc (.int v :: st) hp nc ns) := h
    have h := am_ne h
    exact lv_ldcw hx hb hown (hts _ (of_decide_eq_true hE3)) hd (hk _ _ _ _ _ _ h ls H locs hl hP hD hS hal)
  | lconst n =>
    obtain ⟨rfl, hd⟩ := am_okDe hE1 0 rfl
    have he : (n : Nat) = a := of_decide_eq_true hE2
    exact lv_lconst hx hb hd (by rw [he]; rfl) (hk _ _ _ _ _ _ h ls H locs hl hP hD hS hal)
  | ldc2_w n =>
    obtain ⟨rfl, hd⟩ := am_okDe hE1 2 rfl
    have hE3 : decide (Cond.constantLong (am_own oc) n (lN a) ∈ am_TB) = true := hE2
    exact lv_ldc2 hx hb hown (hts _ (of_decide_eq_true hE3)) hd (hk _ _ _ _ _ _ h ls H locs hl hP hD hS hal)
  | iload j =>
    obtain ⟨rfl, hd⟩ := am_okDe hE1 1 rfl
    obtain ⟨v, hv, h⟩ := am_lde h
    obtain ⟨h1, h⟩ := am_te h
    obtain ⟨x, rfl⟩ := am_isIe h1
    exact lv_iload hx hb hd (hl.2.2.2 _ _ hv) (hk _ _ _ _ _ _ h ls H locs hl hP hD hS hal)
  | iload_n j =>
    obtain ⟨rfl, hd⟩ := am_okDe hE1 0 rfl
    obtain ⟨v, hv, h⟩ := am_lde h
    obtain ⟨h1, h⟩ := am_te h
    obtain ⟨x, rfl⟩ := am_isIe h1
    exact lv_iload_n hx hb hd rfl (hl.2.2.2 _ _ hv) (hk _ _ _ _ _ _ h ls H locs hl hP hD hS hal)
  | lload j =>
    obtain ⟨rfl, hd⟩ := am_okDe hE1 1 rfl
    obtain ⟨v, hv, h⟩ := am_lde h
    obtain ⟨h1, h⟩ := am_te h
    obtain ⟨x, rfl⟩ := am_isLe h1
    exact lv_lload hx hb hd (hl.2.2.2 _ _ hv) (hk _ _ _ _ _ _ h ls H locs hl hP hD hS hal)
  | lload_n j =>
    obtain ⟨rfl, hd⟩ := am_okDe hE1 0 rfl
    obtain ⟨v, hv, h⟩ := am_lde h
    obtain ⟨h1, h⟩ := am_te h
    obtain ⟨x, rfl⟩ := am_isLe h1
    exact lv_lload_n hx hb hd rfl (hl.2.2.2 _ _ hv) (hk _ _ _ _ _ _ h ls H locs hl hP hD hS hal)
  | aload j =>
    obtain ⟨rfl, hd⟩ := am_okDe hE1 1 rfl
    obtain ⟨v, hv, h⟩ := am_lde h
    obtain ⟨h1, h⟩ := am_te h
    obtain ⟨x, hx1⟩ := am_isRe K h1
    have h2 := hl.2.2.2 _ _ hv
    rw [hx1] at h2
    have h3 := hk _ _ _ _ _ _ h ls H locs hl hP hD hS hal
    rw [List.map_cons, hx1] at h3
    exact lv_aload hx hb hd h2 h3
  | aload_n j =>
    obtain ⟨rfl, hd⟩ := am_okDe hE1 0 rfl
    obtain ⟨v, hv, h⟩ := am_lde h
    obtain ⟨h1, h⟩ := am_te h
    obtain ⟨x, hx1⟩ := am_isRe K h1
    have h2 := hl.2.2.2 _ _ hv
    rw [hx1] at h2
    have h3 := hk _ _ _ _ _ _ h ls H locs hl hP hD hS hal
    rw [List.map_cons, hx1] at h3
    exact lv_aload_n hx hb hd rfl h2 h3
  | istore j =>
    obtain ⟨rfl, hd⟩ := am_okDe hE1 1 rfl
    obtain ⟨x, r, rfl, h⟩ := am_i1e h
    obtain ⟨h1, h⟩ := am_hase h
    exact lv_istore hx hb hd (am_R_has hl) (by rw [← hl.2.2.1]; exact h1) rfl (fun ls' h2 => hk _ _ _ _ _ _ (am_nfe _ h) ls' H locs (am_R_s1 (v := .int x) hl h2) hP hD hS hal)
  | istore_n j =>
    obtain ⟨rfl, hd⟩ := am_okDe hE1 0 rfl
    obtain ⟨x, r, rfl, h⟩ := am_i1e h
    obtain ⟨h1, h⟩ := am_hase h
    exact lv_istore_n hx hb hd rfl (am_R_has hl) (by rw [← hl.2.2.1]; exact h1) rfl (fun ls' h2 => hk _ _ _ _ _ _ (am_nfe _ h) ls' H locs (am_R_s1 (v := .int x) hl h2) hP hD hS hal)
  | lstore j =>
    obtain ⟨rfl, hd⟩ := am_okDe hE1 1 rfl
    obtain ⟨x, r, rfl, h⟩ := am_j1e h
    obtain ⟨h1, h⟩ := am_hase h
    exact lv_lstore hx hb hd (am_R_has hl) (by rw [← hl.2.2.1]; exact h1) rfl (fun ls' h2 => hk _ _ _ _ _ _ (am_nfe _ h) ls' H locs (am_R_s2 (v := .long x) hl h2) hP hD hS hal)
  | lstore_n j =>
    obtain ⟨rfl, hd⟩ := am_okDe hE1 0 rfl
    obtain ⟨x, r, rfl, h⟩ := am_j1e h
    obtain ⟨h1, h⟩ := am_hase h
    exact lv_lstore_n hx hb hd rfl (am_R_has hl) (by rw [← hl.2.2.1]; exact h1) rfl (fun ls' h2 => hk _ _ _ _ _ _ (am_nfe _ h) ls' H locs (am_R_s2 (v := .long x) hl h2) hP hD hS hal)
  | astore j =>
    obtain ⟨rfl, hd⟩ := am_okDe hE1 1 rfl
    obtain ⟨x, r, rfl, h⟩ := am_r1e h
    obtain ⟨h1, h⟩ := am_hase h
    exact lv_astore hx hb hd (am_R_has hl) (by rw [← hl.2.2.1]; exact h1) rfl (fun ls' h2 => hk _ _ _ _ _ _ (am_nfe _ h) ls' H locs (am_R_s1 (v := .ref x) hl h2) hP hD hS hal)
  | astore_n j =>
    obtain ⟨rfl, hd⟩ := am_okDe hE1 0 rfl
    obtain ⟨x, r, rfl, h⟩ := am_r1e h
    obtain ⟨h1, h⟩ := am_hase h
    exact lv_astore_n hx hb hd rfl (am_R_has hl) (by rw [← hl.2.2.1]; exact h1) rfl (fun ls' h2 => hk _ _ _ _ _ _ (am_nfe _ h) ls' H locs (am_R_s1 (v := .ref x) hl h2) hP hD hS hal)
  | iinc j n =>
    obtain ⟨rfl, hd⟩ := am_okDe hE1 2 rfl
    obtain ⟨v, hv, h2⟩ := am_lde h
    obtain ⟨x, r, he, h3⟩ := am_i1e h2
    have he1 : v = .int x := (List.cons.inj he).1
    clear h2 h
    subst he1
    have h := am_ne h3
    obtain ⟨kk, hkk⟩ := List.getElem?_of_mem (am_all_in (K := K) hv)
    exact lv_iinc (v := x + am_nv b a) hx hb hd (am_R_has hl) hkk (by rw [of_decide_eq_true hE2]) (by rw [← hl.2.2.1]; exact (List.getElem?_eq_some_iff.mp hv).1) rfl (fun ls' h2 => hk _ _ _ _ _ _ (am_nfe _ h) ls' H locs (am_R_s1 (v := .int (x + am_nv b a)) hl h2) hP hD hS hal)
  | iadd =>
    obtain ⟨rfl, hd⟩ := am_okDe hE1 0 rfl
    obtain ⟨x, y, r, rfl, h⟩ := am_i2e h
    exact lv_iadd hx hb hd (hk _ _ _ _ _ _ h ls H locs hl hP hD hS hal)
  | isub =>
    obtain ⟨rfl, hd⟩ := am_okDe hE1 0 rfl
    obtain ⟨x, y, r, rfl, h⟩ := am_i2e h
    exact lv_isub hx hb hd (hk _ _ _ _ _ _ h ls H locs hl hP hD hS hal)
  | imul =>
    obtain ⟨rfl, hd⟩ := am_okDe hE1 0 rfl
    obtain ⟨x, y, r, rfl, h⟩ := am_i2e h
    exact lv_imul hx hb hd (hk _ _ _ _ _ _ h ls H locs hl hP hD hS hal)
  | iand =>
    obtain ⟨rfl, hd⟩ := am_okDe hE1 0 rfl
    obtain ⟨x, y, r, rfl, h⟩ := am_i2e h
    exact lv_iand hx hb hd (hk _ _ _ _ _ _ h ls H locs hl hP hD hS hal)
  | ior =>
    obtain ⟨rfl, hd⟩ := am_okDe hE1 0 rfl
    obtain ⟨x, y, r, rfl, h⟩ := am_i2e h
    exact lv_ior hx hb hd (hk _ _ _ _ _ _ h ls H locs hl hP hD hS hal)
  | ixor =>
    obtain ⟨rfl, hd⟩ := am_okDe hE1 0 rfl
    obtain ⟨x, y, r, rfl, h⟩ := am_i2e h
    exact lv_ixor hx hb hd (hk _ _ _ _ _ _ h ls H locs hl hP hD hS hal)
  | ishl =>
    obtain ⟨rfl, hd⟩ := am_okDe hE1 0 rfl
    obtain ⟨x, y, r, rfl, h⟩ := am_i2e h
    exact lv_ishl hx hb hd (hk _ _ _ _ _ _ h ls H locs hl hP hD hS hal)
  | ishr =>
    obtain ⟨rfl, hd⟩ := am_okDe hE1 0 rfl
    obtain ⟨x, y, r, rfl, h⟩ := am_i2e h
    exact lv_ishr hx hb hd (hk _ _ _ _ _ _ h ls H locs hl hP hD hS hal)
  | iushr =>
    obtain ⟨rfl, hd⟩ := am_okDe hE1 0 rfl
    obtain ⟨x, y, r, rfl, h⟩ := am_i2e h
    exact lv_iushr hx hb hd rfl (hk _ _ _ _ _ _ h ls H locs hl hP hD hS hal)
  | idiv =>
    obtain ⟨rfl, hd⟩ := am_okDe hE1 0 rfl
    obtain ⟨x, y, r, rfl, h1, h⟩ := am_i2e h
    exact lv_idiv hx hb hd h1 (hk _ _ _ _ _ _ h ls H locs hl hP hD hS hal)
  | irem =>
    obtain ⟨rfl, hd⟩ := am_okDe hE1 0 rfl
    obtain ⟨x, y, r, rfl, h1, h⟩ := am_i2e h
    exact lv_irem hx hb hd h1 (hk _ _ _ _ _ _ h ls H locs hl hP hD hS hal)
  | ladd =>
    obtain ⟨rfl, hd⟩ := am_okDe hE1 0 rfl
    obtain ⟨x, y, r, rfl, h⟩ := am_j2e h
    exact lv_ladd hx hb hd (hk _ _ _ _ _ _ h ls H locs hl hP hD hS hal)
  | lmul =>
    obtain ⟨rfl, hd⟩ := am_okDe hE1 0 rfl
    obtain ⟨x, y, r, rfl, h⟩ := am_j2e h
    exact lv_lmul hx hb hd (hk _ _ _ _ _ _ h ls H locs hl hP hD hS hal)
  | ldiv =>
    obtain ⟨rfl, hd⟩ := am_okDe hE1 0 rfl
    obtain ⟨x, y, r, rfl, h1, h⟩ := am_j2e h
    exact lv_ldiv hx hb hd h1 (hk _ _ _ _ _ _ h ls H locs hl hP hD hS hal)
  | lrem =>
    obtain ⟨rfl, hd⟩ := am_okDe hE1 0 rfl
    obtain ⟨x, y, r, rfl, h1, h⟩ := am_j2e h
    exact lv_lrem hx hb hd h1 (hk _ _ _ _ _ _ h ls H locs hl hP hD hS hal)
  | lcmp =>
    obtain ⟨rfl, hd⟩ := am_okDe hE1 0 rfl
    obtain ⟨x, y, r, rfl, h⟩ := am_j2e h
    exact W.lcmp hx hb hd (hk _ _ _ _ _ _ h ls H locs hl hP hD hS hal)
  | i2l =>
    obtain ⟨rfl, hd⟩ := am_okDe hE1 0 rfl
    obtain ⟨x, r, rfl, h⟩ := am_i1e h
    exact lv_i2l hx hb hd rfl (hk _ _ _ _ _ _ h ls H locs hl hP hD hS hal)
  | l2i =>
    obtain ⟨rfl, hd⟩ := am_okDe hE1 0 rfl
    obtain ⟨x, r, rfl, h⟩ := am_j1e h
    exact lv_l2i hx hb hd rfl (hk _ _ _ _ _ _ h ls H locs hl hP hD hS hal)
  | i2b =>
    obtain ⟨rfl, hd⟩ := am_okDe hE1 0 rfl
    obtain ⟨x, r, rfl, h⟩ := am_i1e h
    exact lv_i2b hx hb hd rfl (hk _ _ _ _ _ _ h ls H locs hl hP hD hS hal)
  | dup =>
    obtain ⟨rfl, hd⟩ := am_okDe hE1 0 rfl
    match st, h with
    | v :: r, h =>
      obtain ⟨h1, h⟩ := am_te h
      exact lv_dup hx hb hd (by rw [am_cat]; exact Nat.eq_of_beq_eq_true h1) (hk _ _ _ _ _ _ h ls H locs hl hP hD hS hal)
    | [], h => exact (show False from h).elim
  | pop =>
    obtain ⟨rfl, hd⟩ := am_okDe hE1 0 rfl
    match st, h with
    | v :: r, h =>
      obtain ⟨h1, h⟩ := am_te h
      exact lv_pop hx hb hd (by rw [am_cat]; exact Nat.eq_of_beq_eq_true h1) (hk _ _ _ _ _ _ h ls H locs hl hP hD hS hal)
    | [], h => exact (show False from h).elim
  | dup2 =>
    obtain ⟨rfl, hd⟩ := am_okDe hE1 0 rfl
    match st, h with
    | v :: w :: r, h =>
      obtain ⟨h1, h⟩ := am_te h
      rw [Bool.and_eq_true] at h1
      exact lv_dup2_11 hx hb hd (by rw [am_cat]; exact Nat.eq_of_beq_eq_true h1.1) (by rw [am_cat]; exact Nat.eq_of_beq_eq_true h1.2) (hk _ _ _ _ _ _ h ls H locs hl hP hD hS hal)
    | [v], h => exact (show False from h).elim
    | [], h => exact (show False from h).elim
  | goto o =>
    obtain ⟨rfl, hd⟩ := am_okDe hE1 2 rfl
    exact lv_goto hx hb hd (of_decide_eq_true hE2) (hk _ _ _ _ _ _ h ls H locs hl hP hD hS hal)
  | ifCond q o =>
    obtain ⟨rfl, hd⟩ := am_okDe hE1 2 rfl
    have ht : (pc : Int) + o = (a : Int) := of_decide_eq_true hE2
    cases q with
    | eq =>
      obtain ⟨x, r, rfl, h1, h2⟩ := am_i1e h
      exact lv_if_eq hx hb hd ht (fun q => hk _ _ _ _ _ _ (h1 q) ls H locs hl hP hD hS hal) (fun q => hk _ _ _ _ _ _ (h2 q) ls H locs hl hP hD hS hal)
    | ne =>
      obtain ⟨x, r, rfl, h1, h2⟩ := am_i1e h
      exact lv_if_ne hx hb hd ht (fun q => hk _ _ _ _ _ _ (h1 q) ls H locs hl hP hD hS hal) (fun q => hk _ _ _ _ _ _ (h2 q) ls H locs hl hP hD hS hal)
    | lt =>
      obtain ⟨x, r, rfl, h1, h2⟩ := am_i1e h
      exact lv_if_lt hx hb hd ht (fun q => hk _ _ _ _ _ _ (h1 q) ls H locs hl hP hD hS hal) (fun q => hk _ _ _ _ _ _ (h2 q) ls H locs hl hP hD hS hal)
    | ge =>
      obtain ⟨x, r, rfl, h1, h2⟩ := am_i1e h
      exact lv_if_ge hx hb hd ht (fun q => hk _ _ _ _ _ _ (h1 q) ls H locs hl hP hD hS hal) (fun q => hk _ _ _ _ _ _ (h2 q) ls H locs hl hP hD hS hal)
    | gt =>
      obtain ⟨x, r, rfl, h1, h2⟩ := am_i1e h
      exact lv_if_gt hx hb hd ht (fun q => hk _ _ _ _ _ _ (h1 q) ls H locs hl hP hD hS hal) (fun q => hk _ _ _ _ _ _ (h2 q) ls H locs hl hP hD hS hal)
    | le =>
      obtain ⟨x, r, rfl, h1, h2⟩ := am_i1e h
      exact lv_if_le hx hb hd ht (fun q => hk _ _ _ _ _ _ (h1 q) ls H locs hl hP hD hS hal) (fun q => hk _ _ _ _ _ _ (h2 q) ls H locs hl hP hD hS hal)
  | if_icmp q o =>
    obtain ⟨rfl, hd⟩ := am_okDe hE1 2 rfl
    have ht : (pc : Int) + o = (a : Int) := of_decide_eq_true hE2
    cases q with
    | eq =>
      obtain ⟨x, y, r, rfl, h1, h2⟩ := am_i2e h
      exact lv_icmp_eq hx hb hd ht (fun q => hk _ _ _ _ _ _ (h1 q) ls H locs hl hP hD hS hal) (fun q => hk _ _ _ _ _ _ (h2 q) ls H locs hl hP hD hS hal)
    | ne =>
      obtain ⟨x, y, r, rfl, h1, h2⟩ := am_i2e h
      exact lv_icmp_ne hx hb hd ht (fun q => hk _ _ _ _ _ _ (h1 q) ls H locs hl hP hD hS hal) (fun q => hk _ _ _ _ _ _ (h2 q) ls H locs hl hP hD hS hal)
    | lt =>
      obtain ⟨x, y, r, rfl, h1, h2⟩ := am_i2e h
      exact lv_icmp_lt hx hb hd ht (fun q => hk _ _ _ _ _ _ (h1 q) ls H locs hl hP hD hS hal) (fun q => hk _ _ _ _ _ _ (h2 q) ls H locs hl hP hD hS hal)
    | ge =>
      obtain ⟨x, y, r, rfl, h1, h2⟩ := am_i2e h
      exact lv_icmp_ge hx hb hd ht (fun q => hk _ _ _ _ _ _ (h1 q) ls H locs hl hP hD hS hal) (fun q => hk _ _ _ _ _ _ (h2 q) ls H locs hl hP hD hS hal)
    | gt =>
      obtain ⟨x, y, r, rfl, h1, h2⟩ := am_i2e h
      exact lv_icmp_gt hx hb hd ht (fun q => hk _ _ _ _ _ _ (h1 q) ls H locs hl hP hD hS hal) (fun q => hk _ _ _ _ _ _ (h2 q) ls H locs hl hP hD hS hal)
    | le =>
      obtain ⟨x, y, r, rfl, h1, h2⟩ := am_i2e h
      exact lv_icmp_le hx hb hd ht (fun q => hk _ _ _ _ _ _ (h1 q) ls H locs hl hP hD hS hal) (fun q => hk _ _ _ _ _ _ (h2 q) ls H locs hl hP hD hS hal)
  | tableswitch dflt lo hi offs =>
    have hd := am_okD0 hE1 rfl
    obtain ⟨x, r, rfl, h1, h2⟩ := am_i1e h
    simp only [am_okX, Bool.and_eq_true, decide_eq_true_eq, List.all_eq_true] at hE2
    obtain ⟨g1, g2, g3⟩ := hE2
    by_cases q : x.toInt < lo ∨ hi < x.toInt
    · exact lv_tableOut hx hb hd q (tgt := ((pc : Int) + dflt).toNat) (Int.toNat_of_nonneg g1).symm (hk _ _ _ _ _ _ (h1 q) ls H locs hl hP hD hS hal)
    · have q1 : ¬ x.toInt < lo := fun z => q (Or.inl z)
      have q2 : ¬ hi < x.toInt := fun z => q (Or.inr z)
      have hj : (x.toInt - lo).toNat < offs.toList.length := by omega
      have ho : offs.toList[(x.toInt - lo).toNat]? = some (offs.toList[(x.toInt - lo).toNat]'hj) := List.getElem?_eq_getElem hj
      have h3 := am_sw_at h2 _ _ ho (by omega)
      exact lv_tableIn hx hb hd q1 q2 (by rw [← Array.getElem?_toList]; exact ho) (tgt := ((pc : Int) + offs.toList[(x.toInt - lo).toNat]'hj).toNat) (Int.toNat_of_nonneg (g2 _ (List.getElem_mem hj))).symm (hk _ _ _ _ _ _ h3 ls H locs hl hP hD hS hal)
  | lookupswitch dflt ps =>
    have hd := am_okD0 hE1 rfl
    obtain ⟨x, r, rfl, h⟩ := am_i1e h
    have hE3 := hE2
    simp only [am_okX, Bool.and_eq_true, decide_eq_true_eq] at hE3
    obtain ⟨g1, g2, g3⟩ := hE3
    have h1 := am_lsw_at h
    refine lv_lookup hx hb hd g3 rfl (tgt := ((pc : Int) + Op.lookupswitch.offset ps.toList dflt x.toInt).toNat) (Int.toNat_of_nonneg ?_).symm (hk _ _ _ _ _ _ h1 ls H locs hl hP hD hS hal)
    rcases am_lsw_in (x := x.toInt) (d := dflt) (ps := ps.toList) with q | ⟨z, hz, q⟩
    · rw [q]; exact g1
    · rw [q]; exact of_decide_eq_true (List.all_eq_true.mp g2 z hz)
  | _ => first | exact absurd (show (1 : Nat) = 0 from hgrp) (by decide) | exact absurd (show (2 : Nat) = 0 from hgrp) (by decide) | exact (show False from h).elim
end AMT
end
section
section AMH
variable {p : Program} {l : Launch} {e : Env} {s : State} {m : MethodId} {args : Array Value} {below : List Frame} {meth : Method} {c : Code} {K : Am_X} {A : Nat → Prop} {oc nL h0 : Nat} {cc : ByteArray} {rt : Option FieldType} {ini al : Bool} {d mc ms : Nat} {Q : State → Prop}
variable {pc : Nat} {loc : List (Option Value)} {st : List Value} {hp : List Am_C} {nc ns : Nat} {ls : Array Slot} {H : Heap} {locs : List Loc}
variable {post : Option Value → List Am_C → Nat → Nat → Prop} {k : Am_K}
theorem am_set_r {h n j t v : Nat} {f : Nat → Option Nat} (hj : j < n) (hn : n ≤ 4096) : (am_w K hp).set h (K.2.2.1 h, .inl (K.2.1 (am_ft t), n, .inr (.inr (.inr (.inr (va_up (fun j => (f j).map K.2.2.1) (nI j).toNatClampNeg (some (K.2.2.1 v)))))))) = am_w K (hp.set h (.inl (t, n, .inr (.inr (.inr (.inr (va_up f j (some v)))))))) := by
  rw [nI_clamp (by omega)]
  have he : (va_up (fun j => (f j).map K.2.2.1) j (some (K.2.2.1 v))) = (fun i => (va_up f j (some v) i).map K.2.2.1) := by
    funext i
    unfold va_up
    split <;> rfl
  rw [he]
  exact am_w_set (c := .inl (t, n, .inr (.inr (.inr (.inr (va_up f j (some v)))))))
theorem am_fl_at {n a b : Nat} (h : am_fl.elem (oc, n, a, b) = true) : ∃ C T N, am_cl[a]? = some (C, T, N) ∧ b < N ∧ Cond.fieldLink (am_own oc) n (T b).1 (T b).2.1 (T b).2.2.1 ∈ am_TB := by
  have h1 : am_flP (oc, n, a, b) := am_fl_ok _ (List.mem_of_elem_eq_true h)
  unfold am_flP at h1
  dsimp only at h1
  split at h1
  · next C T N hc => exact ⟨C, T, N, hc, h1⟩
  · exact h1.elim
set_option maxHeartbeats 4000000 in
theorem am_okH {nx a b c' : Nat} {i : Instr} (X : am_Cx K A p s m args meth c oc nL cc rt ini) (hE : am_okE oc cc (pc, i, nx, a, b, c') = true)
    (hk : ∀ pc loc st hp nc ns, k pc loc st hp nc ns → am_Go K A p l e s m args below meth c nL al h0 d mc ms Q pc loc st hp nc ns)
    (h : am_stp d mc ms al ini rt post k i nx a b c' pc loc st hp nc ns) (hgrp : am_grp i = 1) :
    am_Go K A p l e s m args below meth c nL al h0 d mc ms Q pc loc st hp nc ns := by
  obtain ⟨hx, hb, hml, hrt, hlocks, hown, hts, hK, hTb, hA, hNx, hini⟩ := id X
  unfold am_okE at hE
  rw [Bool.and_eq_true] at hE
  obtain ⟨hE1, hE2⟩ := hE
  intro ls H locs hl hP hD hS hal
  cases i with
  | getfield n =>
    obtain ⟨rfl, hd⟩ := am_okDe hE1 2 rfl
    obtain ⟨C, T, N, hcl, hbN, hlk⟩ := am_fl_at hE2
    obtain ⟨x, r, rfl, h⟩ := am_r1e h
    obtain ⟨ci, fs, hc, h⟩ := am_obe h
    obtain ⟨h1, h4⟩ := am_te h
    have h1 := Nat.eq_of_beq_eq_true h1
    rw [h1] at hc
    clear h
    split at h4
    · next v hv =>
      exact va_get (D := K.1) (cl := am_cl) (v := am_v K v) hx hb hts (am_cl_ws hcl) hown hK hP x (am_w_at hc) hcl b hbN (hts _ hlk) (fun _ h9 => h9) (by rw [List.getElem?_map, hv]; rfl) hd (hk _ _ _ _ _ _ h4 ls H locs hl hP hD hS hal)
    · exact h4.elim
  | putfield n =>
    obtain ⟨rfl, hd⟩ := am_okDe hE1 2 rfl
    simp only [am_okX, Bool.and_eq_true] at hE2
    obtain ⟨hE2, hE3⟩ := hE2
    obtain ⟨C, T, N, hcl, hbN, hlk⟩ := am_fl_at hE2
    match st, h with
    | v :: .ref x :: r, h =>
      obtain ⟨ci, fs, hc, h⟩ := am_obe h
      obtain ⟨h1, h9⟩ := am_te h
      simp only [Bool.and_eq_true] at h1
      obtain ⟨⟨⟨h1, h2⟩, h3⟩, h4⟩ := h1
      have h1 := Nat.eq_of_beq_eq_true h1
      clear h
      subst h1
      have hlt : b < fs.length := by
        have := Nat.le_of_ble_eq_true h2
        omega
      obtain ⟨f1, f2⟩ := am_fite (K := K) h3
      obtain ⟨g1, g2, g3, g4, g5⟩ := am_cl_f hcl hbN
      have kk : ∀ (H1 : Heap) (locs1 : List Loc), va_P K.1 am_cl ((am_w K hp).set x (K.2.2.1 x, .inr (ci, (fs.map (am_v K)).set b (am_v K v)))) H1 → va_D A ((am_w K hp).set x (K.2.2.1 x, .inr (ci, (fs.map (am_v K)).set b (am_v K v)))) → va_S A s.heap H1 locs1 → W p l e (am_rm d mc ms) s m args below meth c H1 locs1 nc ns Q (F0 m (pc + 3) ls (r.map (am_v K))) := fun H1 locs1 hP1 hD1 hS1 => by
        rw [am_set_o] at hP1 hD1
        exact hk _ _ _ _ _ _ h9 ls H1 locs1 hl hP1 hD1 hS1 hal.set
      cases hf : am_F ci b with
      | false =>
        exact va_put (D := K.1) (cl := am_cl) (v := am_v K v) (ty := am_Y ci b) hx hb hts (am_cl_ws hcl) (am_Y ci) (fun k hk => (am_cl_f hcl hk).1) (fun a ha b hb hne => (am_cl_f hcl ha).2.2.2.1 b hb hne) hown hK hP hD hS x (am_w_at hc) hcl b hbN (hts _ hlk) (fun _ h9 => h9) (by rw [← g2]; exact hf) g1 f1 f2 (by rw [List.length_map]; exact hlt) hd kk
      | true =>
        rw [hf] at h4 hE3
        have hini1 : ini = true := by simpa using h4
        have hoc : ci = oc := by
          have h5 : Nat.beq ci oc = true := by simpa using hE3
          exact Nat.eq_of_beq_eq_true h5
        exact va_putF (D := K.1) (cl := am_cl) (v := am_v K v) (ty := am_Y ci b) hx hb hts (am_cl_ws hcl) (am_Y ci) (fun k hk => (am_cl_f hcl hk).1) (fun a ha b hb hne => (am_cl_f hcl ha).2.2.2.1 b hb hne) hown hK hP hD hS x (am_w_at hc) hcl b hbN (hts _ hlk) (fun _ h9 => h9) (by rw [← g2]; exact hf) (hini hini1) (by rw [g3, ← (am_cl_g hcl).2.2.1, hoc]) g1 f1 f2 (by rw [List.length_map]; exact hlt) hd kk
    | [], h => exact (show False from h).elim
    | [v], h => exact (show False from h).elim
    | v :: .int _ :: r, h => exact (show False from h).elim
    | v :: .long _ :: r, h => exact (show False from h).elim
    | v :: .float _ :: r, h => exact (show False from h).elim
    | v :: .double _ :: r, h => exact (show False from h).elim
    | v :: .null :: r, h => exact (show False from h).elim
    | v :: .retAddr _ :: r, h => exact (show False from h).elim
  | getstatic n =>
    obtain ⟨rfl, hd⟩ := am_okDe hE1 2 rfl
    simp only [am_okX, Bool.and_eq_true, decide_eq_true_eq] at hE2
    exact va_gets hx hb (hTb a hE2.1).2 hS hown (hts _ hE2.2) (fun _ h9 => h9) hd (hk _ _ _ _ _ _ h ls H locs hl hP hD hS hal)
  | iaload =>
    obtain ⟨rfl, hd⟩ := am_okDe hE1 0 rfl
    unfold am_stp at h
    dsimp only at h
    split at h
    · next i x r =>
      obtain ⟨n, f, hc, hn, j, hj, rfl, h9⟩ := am_aie h
      have he : (nI j).toNatClampNeg = j := nI_clamp (by omega)
      refine va_iald (D := K.1) (cl := am_cl) hx hb hK hP x 0 (am_w_at hc) (am_tysAt (by decide)) (vp_in_nI hj (by omega)) hd ?_
      rw [he]
      exact hk _ _ _ _ _ _ h9 ls H locs hl hP hD hS hal
    · next i t r =>
      obtain ⟨h1, j, hj, rfl, h9⟩ := am_te h
      have h1 : t < 4 := by
        have := Nat.le_of_ble_eq_true h1
        omega
      have he : (nI j).toNatClampNeg = j := nI_clamp (by omega)
      refine va_ti hx hb (hTb t h1).1 hS (by rw [am_tab6]; exact vp_in_nI hj (by omega)) rfl hd ?_
      rw [he]
      exact hk _ _ _ _ _ _ h9 ls H locs hl hP hD hS hal
    · exact h.elim
  | baload =>
    obtain ⟨rfl, hd⟩ := am_okDe hE1 0 rfl
    unfold am_stp at h
    dsimp only at h
    split at h
    · next i x r =>
      obtain ⟨n, f, hc, hn, j, hj, rfl, h9⟩ := am_abe h
      have he : (nI j).toNatClampNeg = j := nI_clamp (by omega)
      refine va_bald (D := K.1) (cl := am_cl) hx hb hK hP x 1 (am_w_at hc) (am_tysAt (by decide)) (vp_in_nI hj (by omega)) hd ?_
      rw [he]
      exact hk _ _ _ _ _ _ h9 ls H locs hl hP hD hS hal
    · exact h.elim
  | aaload =>
    obtain ⟨rfl, hd⟩ := am_okDe hE1 0 rfl
    unfold am_stp at h
    dsimp only at h
    split at h
    · next i x r =>
      obtain ⟨t, n, f, hc, hn, ht, j, q, hj, rfl, hq, h9⟩ := am_are h
      have he : (nI j).toNatClampNeg = j := nI_clamp (by omega)
      have ht4 : t < 4 := by omega
      have hob : ∃ C, am_ft t = .object C := by rcases ht with rfl | rfl <;> exact ⟨_, rfl⟩
      obtain ⟨C, hC⟩ := hob
      refine va_aldq (D := K.1) (cl := am_cl) (C := C) hx hb hK hP x t (am_w_at hc) (by rw [am_tysAt ht4, hC]) (vp_in_nI hj (by omega)) hd ?_
      rw [he, hq]
      exact hk _ _ _ _ _ _ h9 ls H locs hl hP hD hS hal
    · exact h.elim
  | iastore =>
    obtain ⟨rfl, hd⟩ := am_okDe hE1 0 rfl
    unfold am_stp at h
    dsimp only at h
    split at h
    · next y i x r =>
      obtain ⟨n, f, hc, hn, j, hj, rfl, h9⟩ := am_aie h
      refine va_iast (D := K.1) (cl := am_cl) hx hb hK hP hD hS x 0 (am_w_at hc) (am_tysAt (by decide)) (vp_in_nI hj (by omega)) hd (fun H1 locs1 hP1 hD1 hS1 => ?_)
      rw [am_set_i (t := 0) hj hn] at hP1 hD1
      exact hk _ _ _ _ _ _ h9 ls H1 locs1 hl hP1 hD1 hS1 hal.set
    · exact h.elim
  | bastore =>
    obtain ⟨rfl, hd⟩ := am_okDe hE1 0 rfl
    unfold am_stp at h
    dsimp only at h
    split at h
    · next y i x r =>
      obtain ⟨n, f, hc, hn, j, hj, rfl, h9⟩ := am_abe h
      refine va_bast (D := K.1) (cl := am_cl) hx hb hK hP hD hS x 1 (am_w_at hc) (am_tysAt (by decide)) (vp_in_nI hj (by omega)) hd (fun H1 locs1 hP1 hD1 hS1 => ?_)
      rw [vp_nar_byte, am_set_i (t := 1) hj hn] at hP1 hD1
      exact hk _ _ _ _ _ _ h9 ls H1 locs1 hl hP1 hD1 hS1 hal.set
    · exact h.elim
  | aastore =>
    obtain ⟨rfl, hd⟩ := am_okDe hE1 0 rfl
    unfold am_stp at h
    dsimp only at h
    split at h
    · next v i x r =>
      obtain ⟨t, n, f, hc, hn, ht, h⟩ := am_are h
      obtain ⟨ci, fs, hv, h⟩ := am_obe h
      obtain ⟨h1, j, hj, rfl, h9⟩ := am_te h
      simp only [Bool.or_eq_true, Bool.and_eq_true] at h1
      have ht4 : t < 4 := by omega
      have hcl : ∃ q : vw_C, am_cl[ci]? = some q ∧ am_ft t = .object q.1 := by
        rcases h1 with ⟨h1, h2⟩ | ⟨h1, h2⟩
        · have h1 := Nat.eq_of_beq_eq_true h1
          have h2 := Nat.eq_of_beq_eq_true h2
          subst h1 h2
          exact ⟨_, rfl, rfl⟩
        · have h1 := Nat.eq_of_beq_eq_true h1
          have h2 := Nat.eq_of_beq_eq_true h2
          subst h1 h2
          exact ⟨_, rfl, rfl⟩
      obtain ⟨q, hq, hft⟩ := hcl
      refine va_astq (D := K.1) (cl := am_cl) hx hb hK hP hD hS x t v ci (am_w_at hc) (by rw [am_tysAt ht4, hft]) (am_w_at hv) hq (vp_in_nI hj (by omega)) hd (fun H1 locs1 hP1 hD1 hS1 => ?_)
      rw [am_set_r (t := t) hj hn] at hP1 hD1
      exact hk _ _ _ _ _ _ h9 ls H1 locs1 hl hP1 hD1 hS1 hal.set
    · exact h.elim
  | arraylength =>
    obtain ⟨rfl, hd⟩ := am_okDe hE1 0 rfl
    obtain ⟨x, r, rfl, h9⟩ := am_r1e h
    clear h
    split at h9
    · next n f hc =>
      exact va_alen (D := K.1) (cl := am_cl) (v := nI n) hx hb hK hP x 0 (am_w_at hc) (am_tysAt (by decide)) rfl hd (hk _ _ _ _ _ _ h9 ls H locs hl hP hD hS hal)
    · next t n f hc =>
      obtain ⟨h1, h⟩ := am_te h9
      simp only [Bool.or_eq_true] at h1
      have ht : t = 2 ∨ t = 3 := h1.imp Nat.eq_of_beq_eq_true Nat.eq_of_beq_eq_true
      exact va_alen (D := K.1) (cl := am_cl) (v := nI n) hx hb hK hP x t (am_w_at hc) (am_tysAt (by omega)) rfl hd (hk _ _ _ _ _ _ h ls H locs hl hP hD hS hal)
    · exact h9.elim
  | _ => first | exact absurd (show (0 : Nat) = 1 from hgrp) (by decide) | exact absurd (show (2 : Nat) = 1 from hgrp) (by decide)
end AMH
end
section
section AMC
variable {p : Program} {l : Launch} {e : Env} {s : State} {m : MethodId} {args : Array Value} {below : List Frame} {meth : Method} {c : Code} {K : Am_X} {A : Nat → Prop} {oc nL h0 : Nat} {cc : ByteArray} {rt : Option FieldType} {ini al : Bool} {d mc ms : Nat} {Q : State → Prop}
variable {pc : Nat} {loc : List (Option Value)} {st : List Value} {hp : List Am_C} {nc ns : Nat} {ls : Array Slot} {H : Heap} {locs : List Loc}
variable {post : Option Value → List Am_C → Nat → Nat → Prop} {k : Am_K}
theorem am_good {Ts : List Cond} (hT : ∀ w ∈ am_TB, w ∈ Ts) {ws : List Cond} (h : ∀ w ∈ ws, w ∈ am_TB) : GoodIn Ts ws := fun w hw => ⟨hT w (h w hw), good_of_word (List.mem_filter.mp (h w hw)).2⟩
theorem am_wsTB {mi : Nat} (h : am_mP mi) : ∀ w ∈ am_ws mi, w ∈ am_TB := by
  intro w hw
  rcases List.mem_cons.mp hw with rfl | hw
  · exact h.1
  · exact hw
theorem am_rmR {d' mc' ms' maxL : Nat} (h : d' < d) (hm : maxL ≤ 20) : (am_rm d' mc' ms').frames + 1 ≤ (am_rm d mc ms).frames ∧ 8 + (maxL + 11) + (am_rm d' mc' ms').locals ≤ (am_rm d mc ms).locals := by
  show d' + 1 ≤ d ∧ 8 + (maxL + 11) + 40 * d' ≤ 40 * d
  omega
theorem am_rcve {ci : Nat} {v : Option Value} (h : am_rcv ci v hp = true) : ∃ x fs, v = some (.ref x) ∧ hp[x]? = some (.inr (ci, fs)) := by
  unfold am_rcv at h
  split at h
  · next x =>
    split at h
    · next c' fs hc =>
      have h1 := Nat.eq_of_beq_eq_true h
      subst h1
      exact ⟨x, fs, rfl, hc⟩
    · cases h
  · cases h
theorem am_split {b x : Nat} (hb : 0 < b) (h : st[b - 1]? = some (.ref x)) : st = st.take (b - 1) ++ .ref x :: st.drop b ∧ (st.take b).reverse = .ref x :: (st.take (b - 1)).reverse ∧ (st.take (b - 1)).length = b - 1 := by
  have hlt := (List.getElem?_eq_some_iff.mp h).1
  have hge : st[b - 1] = .ref x := (List.getElem?_eq_some_iff.mp h).2
  have e1 : st.take b = st.take (b - 1) ++ [.ref x] := by
    have h1 := List.take_succ_eq_append_getElem (l := st) (i := b - 1) hlt
    rw [show b - 1 + 1 = b by omega, hge] at h1
    exact h1
  refine ⟨?_, ?_, by rw [List.length_take]; omega⟩
  · conv => lhs; rw [← List.take_append_drop b st, e1]
    simp
  · rw [e1]; simp
theorem am_sumle {b : Nat} (h : Nat.ble (am_cs (st.drop b)) 8 = true) : 2 * (F0 m pc ls (st.map (am_v K))).monitorRoom + (((st.drop b).map (am_v K)).map fun v => v.category).sum ≤ 8 := by
  refine lv_room ?_
  rw [am_cats]
  exact Nat.le_of_ble_eq_true h
theorem am_lenp {desc : String} {b : Nat} (h : (parseMethodDescriptor desc).map (fun d => d.parameters.length + 1) = some b) : (parseMethodDescriptor desc).map (fun d => d.parameters.length) = some (b - 1) := by
  cases hq : parseMethodDescriptor desc with
  | none => rw [hq] at h; cases h
  | some q =>
    rw [hq] at h
    have h1 : q.parameters.length + 1 = b := Option.some.inj h
    rw [← h1]
    rfl
theorem am_rdyOf {al' : Bool} (hP : va_P K.1 am_cl (am_w K hp) H) (hS : va_S A s.heap H locs) (hal : am_Al K s al h0 mc ms hp nc ns) (hle : H.size ≤ s.heap.size + nc) (h : al' = true → al = true) : al' = true → ∀ k, hp.length ≤ k → K.2.2.1 k = H.size + (k - hp.length) := by
  intro q j hj
  have h1 := hal.2 (h q)
  have h2 := am_size hP hS h1 hle
  have h3 : K.2.2.1 hp.length = s.heap.size + nc := by rw [h1.2 hp.length (by omega)]; omega
  rw [h2, h3, h1.2 j (by omega)]
  omega
set_option maxHeartbeats 4000000 in
theorem am_okC {nx a b c' : Nat} {i : Instr} (X : am_Cx K A p s m args meth c oc nL cc rt ini) (hE : am_okE oc cc (pc, i, nx, a, b, c') = true)
    (hk : ∀ pc loc st hp nc ns, k pc loc st hp nc ns → am_Go K A p l e s m args below meth c nL al h0 d mc ms Q pc loc st hp nc ns)
    (h : am_stp d mc ms al ini rt post k i nx a b c' pc loc st hp nc ns) (hgrp : match i with
      | .invokevirtual _ => True | .invokestatic _ => True | .invokespecial _ => True | _ => False) :
    am_Go K A p l e s m args below meth c nL al h0 d mc ms Q pc loc st hp nc ns := by
  obtain ⟨hx, hb, hml, hrt, hlocks, hown, hts, hK, hTb, hA, hNx, hini⟩ := id X
  unfold am_okE at hE
  rw [Bool.and_eq_true] at hE
  obtain ⟨hE1, hE2⟩ := hE
  intro ls H locs hl hP hD hS hal
  have hfix : CallFix p m c cc nL s args am_TB (am_own oc) := ⟨hx, hb, hml, hown, hts⟩
  cases i with
  | invokevirtual n =>
    obtain ⟨rfl, hd⟩ := am_okDe hE1 2 rfl
    simp only [am_okX, Bool.and_eq_true, decide_eq_true_eq] at hE2
    obtain ⟨hE2, hb0⟩ := hE2
    obtain ⟨mP, w1, w2, w3, w4, w5, w6⟩ : am_mkP (oc, n, a, b, c', 0) := am_mk_ok _ (List.mem_of_elem_eq_true hE2)
    obtain ⟨h1, d', r, hp', hd', hEv, h2⟩ := am_te h
    obtain ⟨h2, h3⟩ := am_te h2
    rw [Bool.and_eq_true] at h1
    obtain ⟨x, fs, hv, hc⟩ := am_rcve h1.1
    obtain ⟨s1, s2, s3⟩ := am_split hb0 hv
    obtain ⟨q, hq⟩ := am_cl_lt w6
    obtain ⟨C, T, N⟩ := q
    have hCn : C = (am_m a).1.cls := by rw [← (am_cl_g hq).2.2.1]; exact w5
    refine am_after (hp := hp) (hp' := hp') (r := r) (rest := st.drop b) (mc' := 0) (ms' := 0) (a := ((st.take b).reverse.map (am_v K)).toArray) X hP hD hS ?_ (fun H1 locs1 hP1 hD1 hS1 => hk _ _ _ _ _ _ h3 ls H1 locs1 hl hP1 hD1 hS1 ?_)
    · have hM := hEv l K H.size
      rw [s2, List.map_cons] at hM ⊢
      refine va_runV (b := K.2.2.1 x) (C := C) (As := (st.take (b - 1)).reverse.map (am_v K)) (rest := (st.drop b).map (am_v K)) hfix hM (cwV (b - 1) hts (am_good (fun _ h => h) ?_) rfl rfl rfl ⟨hCn.symm, mP.2.2.1.1, mP.2.2.1.2, am_lenp w4⟩ (am_rmR hd' mP.2.2.2.1)) ⟨am_blind _, va_recv hK hP hq (am_w_at hc), ?_⟩ rfl ?_ hl.1 ?_ (am_sumle h1.2) hd ⟨?_, ?_⟩
      · intro w hw
        rw [hCn] at hw
        simp only [wsV, List.mem_append, List.mem_cons, List.not_mem_nil, or_false] at hw
        rcases hw with (rfl | rfl | rfl | rfl) | hw
        · exact w1
        · exact w2
        · exact w3
        · exact mP.2.1
        · exact am_wsTB mP w hw
      · have h5 := am_pre (al' := false) X hP hD hS (fun q => by cases q) ((st.take b).reverse.map (am_v K))
        rw [s2, List.map_cons] at h5
        exact h5
      · rw [List.length_map, List.length_reverse]; exact s3
      · show st.map (am_v K) = _
        conv => lhs; rw [s1]
        simp
        rfl
      · exact hal.1.1
      · exact hal.1.2
    · refine ⟨hal.1, fun q => ?_⟩
      have h6 := hal.2 q
      have h7 : hp'.length = hp.length := by
        rw [q] at h2
        exact Nat.eq_of_beq_eq_true (by simpa using h2)
      rw [h7]
      exact h6
  | invokestatic n =>
    obtain ⟨rfl, hd⟩ := am_okDe hE1 2 rfl
    simp only [am_okX] at hE2
    unfold am_stp at h
    dsimp only at h
    have hszl : ls.size = nL := hl.1
    cases e1 : Nat.beq a 9001 with
    | true =>
      rw [e1] at h hE2
      dsimp only [cond_true] at h hE2
      have w1 : am_mkP (oc, n, a, b, c', 4) := am_mk_ok _ (List.mem_of_elem_eq_true hE2)
      split at h
      · next n' dp dst sp src r _ =>
        obtain ⟨n0, f, hc0, hn0, h⟩ := am_aie h
        obtain ⟨n1, g, hc1, hn1, h⟩ := am_aie h
        obtain ⟨h1, nn, dpn, spn, rfl, rfl, rfl, q1, q2, h9⟩ := am_te h
        rw [Bool.and_eq_true] at h1
        have hd0 : 0 < d := by
          have := Nat.le_of_ble_eq_true h1.2
          omega
        have a1 : (nI nn).toNatClampNeg = nn := nI_clamp (by omega)
        have a2 : (nI dpn).toNatClampNeg = dpn := nI_clamp (by omega)
        have a3 : (nI spn).toNatClampNeg = spn := nI_clamp (by omega)
        refine va_copyi (D := K.1) (cl := am_cl) (ty := .int) hx hb (by rw [hml, hszl]) hown (hts _ w1) (hts _ am_obj_ok.2.2.1) (hts _ am_obj_ok.2.2.2.1) (hts _ am_obj_ok.2.2.2.2.1) hK hP hD hS src dst 0 0 (am_w_at hc0) (am_w_at hc1) (am_tysAt (by decide)) (am_tysAt (by decide)) rfl (nI_pos (by omega)) (nI_pos (by omega)) (nI_pos (by omega)) (by rw [a1, a3]; exact q1) (by rw [a1, a2]; exact q2) (fun _ _ => rfl) hd0 ?_ hd (fun H1 locs1 hP1 hD1 hS1 => ?_)
        · rw [am_cats]
          have h5 : am_cs r ≤ 8 := Nat.le_of_ble_eq_true h1.1
          have h6 : nativeFrameWords "java/lang/System" "arraycopy" 5 + 11 ≤ 32 := by decide
          show (r.map fun v => v.category).sum + _ ≤ 40 * d
          unfold am_cs at h5
          omega
        · have e5 : (am_w K hp).set dst (K.2.2.1 dst, .inl (K.2.1 (am_ft 0), n1, .inl (va_cpy f g (nI spn).toNatClampNeg (nI dpn).toNatClampNeg (nI nn).toNatClampNeg))) = am_w K (hp.set dst (.inl (0, n1, .inl (va_cpy f g spn dpn nn)))) := by
            rw [a1, a2, a3]
            exact am_w_set (c := .inl (0, n1, .inl (va_cpy f g spn dpn nn)))
          have e6 : am_vA K (n1, .inl g) = (n1, .inl g) := rfl
          have hP2 : va_P K.1 am_cl (am_w K (hp.set dst (.inl (0, n1, .inl (va_cpy f g spn dpn nn))))) H1 := by rw [← e5]; exact hP1
          have hD2 : va_D A (am_w K (hp.set dst (.inl (0, n1, .inl (va_cpy f g spn dpn nn))))) := by rw [← e5]; exact hD1
          exact hk _ _ _ _ _ _ h9 ls H1 locs1 hl hP2 hD2 hS1 hal.set
      · exact h.elim
    | false =>
      rw [e1] at h hE2
      dsimp only [cond_false] at h hE2
      cases e2 : Nat.beq a 9002 with
      | true =>
        rw [e2] at h hE2
        dsimp only [cond_true] at h hE2
        have w1 : am_mkP (oc, n, a, b, c', 6) := am_mk_ok _ (List.mem_of_elem_eq_true hE2)
        obtain ⟨x, y, r, rfl, h⟩ := am_i2e h
        obtain ⟨h1, h9⟩ := am_te h
        rw [Bool.and_eq_true] at h1
        have hd0 : 0 < d := by
          have := Nat.le_of_ble_eq_true h1.2
          omega
        refine va_mmax (R := am_rm d mc ms) hx hb (by rw [hml, hszl]) hown (hts _ w1) (hts _ am_mth_ok.1) (hts _ am_mth_ok.2.1) (hts _ am_mth_ok.2.2.1) hd0 ?_ hal.1.1 hal.1.2 hd (hk _ _ _ _ _ _ h9 ls H locs hl hP hD hS hal)
        rw [am_cats]
        have h5 : am_cs r ≤ 8 := Nat.le_of_ble_eq_true h1.1
        show (r.map fun v => v.category).sum + 13 ≤ 40 * d
        unfold am_cs at h5
        omega
      | false =>
        rw [e2] at h hE2
        dsimp only [cond_false] at h hE2
        cases e3 : Nat.beq a 9003 with
        | true =>
          rw [e3] at h hE2
          dsimp only [cond_true] at h hE2
          have w1 : am_mkP (oc, n, a, b, c', 7) := am_mk_ok _ (List.mem_of_elem_eq_true hE2)
          obtain ⟨x, y, r, rfl, h⟩ := am_i2e h
          obtain ⟨h1, h9⟩ := am_te h
          rw [Bool.and_eq_true] at h1
          have hd0 : 0 < d := by
            have := Nat.le_of_ble_eq_true h1.2
            omega
          refine va_mmin (R := am_rm d mc ms) hx hb (by rw [hml, hszl]) hown (hts _ w1) (hts _ am_mth_ok.2.2.2.1) (hts _ am_mth_ok.2.1) (hts _ am_mth_ok.2.2.2.2) hd0 ?_ hal.1.1 hal.1.2 hd (hk _ _ _ _ _ _ h9 ls H locs hl hP hD hS hal)
          rw [am_cats]
          have h5 : am_cs r ≤ 8 := Nat.le_of_ble_eq_true h1.1
          show (r.map fun v => v.category).sum + 13 ≤ 40 * d
          unfold am_cs at h5
          omega
        | false =>
          rw [e3] at h hE2
          dsimp only [cond_false] at h hE2
          obtain ⟨mP, w1, w2, w4⟩ : am_mkP (oc, n, a, b, c', 1) := am_mk_ok _ (List.mem_of_elem_eq_true hE2)
          obtain ⟨h1, d', r, hp', hd', hEv, h2⟩ := am_te h
          obtain ⟨h2, h3⟩ := am_te h2
          rw [Bool.and_eq_true] at h1
          have hlen : b ≤ st.length := Nat.le_of_ble_eq_true h1.1
          refine am_after (hp := hp) (hp' := hp') (r := r) (rest := st.drop b) (mc' := 0) (ms' := 0) (a := ((st.take b).reverse.map (am_v K)).toArray) X hP hD hS ?_ (fun H1 locs1 hP1 hD1 hS1 => hk _ _ _ _ _ _ h3 ls H1 locs1 hl hP1 hD1 hS1 ?_)
          · refine va_runS (As := (st.take b).reverse.map (am_v K)) (rest := (st.drop b).map (am_v K)) hfix (hEv l K H.size) (va_cwS b hts (am_good (fun _ h => h) ?_) rfl rfl rfl ⟨mP.2.2.1.1, mP.2.2.1.2, w4⟩ (am_rmR hd' mP.2.2.2.1)) ⟨am_blind _, am_pre (al' := false) X hP hD hS (fun q => by cases q) _⟩ rfl ?_ hl.1 ?_ (am_sumle h1.2) hd ⟨hal.1.1, hal.1.2⟩
            · intro w hw
              simp only [va_wsS, List.mem_append, List.mem_cons, List.not_mem_nil, or_false] at hw
              rcases hw with (rfl | rfl | rfl) | hw
              · exact w1
              · exact w2
              · exact mP.2.1
              · exact am_wsTB mP w hw
            · rw [List.length_map, List.length_reverse, List.length_take]; omega
            · show st.map (am_v K) = _
              conv => lhs; rw [← List.take_append_drop b st]
              simp
          · refine ⟨hal.1, fun q => ?_⟩
            have h6 := hal.2 q
            have h7 : hp'.length = hp.length := by
              rw [q] at h2
              exact Nat.eq_of_beq_eq_true (by simpa using h2)
            rw [h7]
            exact h6
  | invokespecial n =>
    obtain ⟨rfl, hd⟩ := am_okDe hE1 2 rfl
    simp only [am_okX] at hE2
    unfold am_stp at h
    dsimp only at h
    have hszl : ls.size = nL := hl.1
    cases e1 : Nat.beq a 9000 with
    | true =>
      rw [e1] at h hE2
      dsimp only [cond_true] at h hE2
      have w1 : am_mkP (oc, n, a, b, c', 3) := am_mk_ok _ (List.mem_of_elem_eq_true hE2)
      obtain ⟨x, r, rfl, h⟩ := am_r1e h
      obtain ⟨h1, h9⟩ := am_te h
      rw [Bool.and_eq_true] at h1
      have hd0 : 0 < d := by
        have := Nat.le_of_ble_eq_true h1.2
        omega
      refine W.objInit hx hb hown (hts _ w1) (hts _ am_obj_ok.1) (hts _ am_obj_ok.2.1) rfl (by rw [hml]; exact hszl) rfl hd hd0 ?_ (hk _ _ _ _ _ _ h9 ls H locs hl hP hD hS hal)
      have h5 : am_cs r ≤ 8 := Nat.le_of_ble_eq_true h1.1
      show 2 * 0 + ((r.map (am_v K)).map fun v => v.category).sum + 12 ≤ 40 * d
      rw [am_cats]
      unfold am_cs at h5
      omega
    | false =>
      rw [e1] at h hE2
      dsimp only [cond_false] at h hE2
      simp only [Bool.and_eq_true, Bool.or_eq_true, decide_eq_true_eq] at hE2
      obtain ⟨hE2, hb0⟩ := hE2
      obtain ⟨h1, al', d', mc', ms', hp', hal', hd', hmc, hms, hEv, h2⟩ := am_te h
      obtain ⟨h2, h3⟩ := am_te h2
      rw [Bool.and_eq_true] at h1
      obtain ⟨x, fs, hv, hc⟩ := am_rcve h1.1
      obtain ⟨s1, s2, s3⟩ := am_split hb0 hv
      refine am_W_size (fun hsz => ?_)
      have hrd := am_rdyOf hP hS hal hsz hal'
      refine am_after (hp := hp) (hp' := hp') (r := none) (rest := st.drop b) (mc' := mc') (ms' := ms') (a := ((st.take b).reverse.map (am_v K)).toArray) X hP hD hS ?_ (fun H1 locs1 hP1 hD1 hS1 => hk _ _ _ _ _ _ h3 ls H1 locs1 hl hP1 hD1 hS1 ⟨⟨hmc, hms⟩, fun q => ?_⟩)
      · have hM := hEv l K H.size
        have h5 := am_pre (al' := al') X hP hD hS hrd ((st.take b).reverse.map (am_v K))
        rw [s2, List.map_cons] at hM h5 ⊢
        have hstk : st.map (am_v K) = ((st.take (b - 1)).reverse.map (am_v K)).reverse ++ .ref (K.2.2.1 x) :: (st.drop b).map (am_v K) := by
          conv => lhs; rw [s1]
          simp
          rfl
        rcases hE2 with hE2 | hE2
        · obtain ⟨mP, w1, w2, w4, w5, w6⟩ : am_mkP (oc, n, a, b, c', 2) := am_mk_ok _ (List.mem_of_elem_eq_true hE2)
          have hws : am_ws a = Cond.code (am_m a).1 (am_m a).2.1 (am_m a).2.2.1 none :: am_TB := by unfold am_ws; rw [w6]
          exact va_runI (b := K.2.2.1 x) (As := (st.take (b - 1)).reverse.map (am_v K)) (rest := (st.drop b).map (am_v K)) hfix hM (cwI (b - 1) hts (am_good (fun _ h => h) (am_wsTB mP)) hws rfl rfl (hts _ mP.2.1) (hts _ w1) (hts _ w2) w5 ⟨mP.2.2.1.1, mP.2.2.1.2, am_lenp w4⟩ (am_rmR hd' mP.2.2.2.1)) ⟨am_blind _, h5⟩ rfl (by rw [List.length_map, List.length_reverse]; exact s3) hl.1 hstk (am_sumle h1.2) hd ⟨hmc, hms⟩
        · obtain ⟨mP, w1, w2, w4, w5, w6⟩ : am_mkP (oc, n, a, b, c', 5) := am_mk_ok _ (List.mem_of_elem_eq_true hE2)
          have hws : am_ws a = Cond.code (am_m a).1 (am_m a).2.1 (am_m a).2.2.1 none :: am_TB := by unfold am_ws; rw [w6]
          exact va_runIN (b := K.2.2.1 x) (As := (st.take (b - 1)).reverse.map (am_v K)) (rest := (st.drop b).map (am_v K)) hfix hM ⟨va_cnB (b - 1) hts (am_good (fun _ h => h) (am_wsTB mP)) hws rfl rfl (hNx.1 _ _ _ _ w1) (hts _ mP.2.1) ⟨mP.2.2.1.1, mP.2.2.1.2, am_lenp w4⟩ (am_rmR hd' mP.2.2.2.1), w5, hts _ w2⟩ ⟨am_blind _, h5⟩ rfl (by rw [List.length_map, List.length_reverse]; exact s3) hl.1 hstk (am_sumle h1.2) hd ⟨hmc, hms⟩
      · have h6 := hal.2 q
        have h7 := Nat.eq_of_beq_eq_true h2
        refine ⟨?_, h6.2⟩
        rw [h7, h6.1]
        omega
  | _ => exact (show False from hgrp).elim
end AMC
end
section
section AMN
variable {p : Program} {l : Launch} {e : Env} {s : State} {m : MethodId} {args : Array Value} {below : List Frame} {meth : Method} {c : Code} {K : Am_X} {A : Nat → Prop} {oc nL h0 : Nat} {cc : ByteArray} {rt : Option FieldType} {ini al : Bool} {d mc ms : Nat} {Q : State → Prop}
variable {pc : Nat} {loc : List (Option Value)} {st : List Value} {hp : List Am_C} {nc ns : Nat} {ls : Array Slot} {H : Heap} {locs : List Loc}
variable {post : Option Value → List Am_C → Nat → Nat → Prop} {k : Am_K}
/-- one new cell at the heap's end -/
theorem am_push {H1 : Heap} {cn : Am_C} (hA : ∀ q, s.heap.size ≤ q → A q) (hP : va_P K.1 am_cl (am_w K hp) H) (hD : va_D A (am_w K hp)) (hS : va_S A s.heap H locs) (hal : am_Al K s al h0 mc ms hp nc ns) (hle : H.size ≤ s.heap.size + nc) (ha : al = true) (hz : H1.size = H.size + 1) (ho : ∀ q, q < H.size → H1[q]? = H[q]?) (hc : va_at K.1 am_cl (H.size, am_c K cn) H1) :
    K.2.2.1 hp.length = H.size ∧ va_P K.1 am_cl (am_w K (hp ++ [cn])) H1 ∧ va_D A (am_w K (hp ++ [cn])) ∧ va_S A s.heap H1 locs := by
  have h1 := hal.2 ha
  have h2 := am_size hP hS h1 hle
  refine ⟨h2.symm, ?_, ?_, ?_⟩
  · rw [am_w_app, ← h2]
    refine (hP.kept (fun k q hq => ho q.1 (hP k q hq).lt)).app (fun k q hq => ?_)
    have hz : k < 1 := (List.getElem?_eq_some_iff.mp hq).1
    rw [show k = 0 by omega] at hq
    cases hq
    exact hc
  · rw [am_w_app, ← h2]
    exact hD.push hP rfl (hA _ hS.1)
  · exact ⟨Nat.le_trans hS.1 (by omega), fun x g1 g2 => (ho x (Nat.lt_of_lt_of_le g1 hS.1)).trans (hS.2.1 x g1 g2), hS.2.2⟩
theorem am_alS {cn : Am_C} {n : Nat} (hal : am_Al K s al h0 mc ms hp nc ns) (h1 : nc + 1 ≤ mc) (h2 : ns + n ≤ ms) : am_Al K s al h0 mc ms (hp ++ [cn]) (nc + 1) (ns + n) := by
  refine ⟨⟨h1, h2⟩, fun q => ?_⟩
  obtain ⟨g1, g2⟩ := hal.2 q
  refine ⟨?_, g2⟩
  rw [List.length_append, g1]
  rfl
theorem am_dvv {ci : Nat} {C : String} {T : u_T} {N : Nat} (h : am_cl[ci]? = some (C, T, N)) : (am_dv ci).map (am_v K) = am_dv ci := by
  have h1 := (am_cl_g h).2.2.2.2
  have h2 : ∀ v ∈ am_dv ci, am_v K v = v := by
    intro v hv
    have h3 := List.all_eq_true.mp h1 v hv
    cases v <;> first | rfl | cases h3
  conv => rhs; rw [← List.map_id (am_dv ci)]
  exact List.map_congr_left h2
set_option maxHeartbeats 4000000 in
theorem am_okA {nx a b c' : Nat} {i : Instr} (X : am_Cx K A p s m args meth c oc nL cc rt ini) (hE : am_okE oc cc (pc, i, nx, a, b, c') = true)
    (hk : ∀ pc loc st hp nc ns, k pc loc st hp nc ns → am_Go K A p l e s m args below meth c nL al h0 d mc ms Q pc loc st hp nc ns)
    (h : am_stp d mc ms al ini rt post k i nx a b c' pc loc st hp nc ns) (hgrp : match i with
      | .new _ => True | .newarray _ => True | .anewarray _ => True | _ => False) :
    am_Go K A p l e s m args below meth c nL al h0 d mc ms Q pc loc st hp nc ns := by
  obtain ⟨hx, hb, hml, hrt, hlocks, hown, hts, hK, hTb, hA, hNx, hini⟩ := id X
  unfold am_okE at hE
  rw [Bool.and_eq_true] at hE
  obtain ⟨hE1, hE2⟩ := hE
  intro ls H locs hl hP hD hS hal
  refine am_W_size (fun hle => ?_)
  cases i with
  | new n =>
    obtain ⟨rfl, hd⟩ := am_okDe hE1 2 rfl
    simp only [am_okX, Bool.and_eq_true, decide_eq_true_eq] at hE2
    obtain ⟨w1, w2⟩ := hE2
    obtain ⟨h1, h9⟩ := am_te h
    simp only [Bool.and_eq_true] at h1
    obtain ⟨⟨⟨h1, h2⟩, h3⟩, h4⟩ := h1
    have h2 := Nat.le_of_ble_eq_true h2
    have h3 := Nat.le_of_ble_eq_true h3
    have h4 : a < 8 := by
      have := Nat.le_of_ble_eq_true h4
      omega
    obtain ⟨⟨C, T, N⟩, hq⟩ := am_cl_lt h4
    obtain ⟨g1, g2, g3, g4, g5⟩ := am_cl_g hq
    have hN : N = b := by rw [← g4]; exact w2
    subst hN
    rw [g3] at w1
    refine W.newcK hx hb hown (hts _ w1) (hts _ g1) (hts _ g2) rfl hd h2 h3 (hK.1 a _ hq).2.1 rfl fun H1 kC hkC e1 z1 o1 => ?_
    have hcell : va_at K.1 am_cl (H.size, am_c K (.inr (a, am_dv a))) H1 := by
      refine ⟨_, hq, ?_⟩
      have h5 := (u_born (am_Y a) hts (am_cl_ws hq) (hK.1 a _ hq) hkC e1 (fun k hk => (am_cl_f hq hk).1)).to (V' := vp_V (am_dv a)) (fun j hj => (am_cl_f hq hj).2.2.2.2)
      rw [am_dvv hq]
      exact h5
    obtain ⟨q1, q2, q3, q4⟩ := am_push (cn := .inr (a, am_dv a)) hA hP hD hS hal hle h1 z1 o1 hcell
    have h6 := hk _ _ _ _ _ _ h9 ls H1 locs hl q2 q3 q4 (am_alS hal h2 h3)
    rw [List.map_cons, show am_v K (.ref hp.length) = .ref H.size from by rw [← q1]; rfl] at h6
    exact h6
  | newarray ty =>
    obtain ⟨rfl, hd⟩ := am_okDe hE1 1 rfl
    cases ty with
    | int =>
      obtain ⟨x, r, rfl, n, rfl, h8⟩ := am_i1e h
      obtain ⟨h1, h9⟩ := am_te h8
      simp only [Bool.and_eq_true] at h1
      obtain ⟨⟨⟨h1, h2⟩, h3⟩, h4⟩ := h1
      have h2 := Nat.le_of_ble_eq_true h2
      have h3 := Nat.le_of_ble_eq_true h3
      have h4 := Nat.le_of_ble_eq_true h4
      refine va_newaK (atype := .int) hx hb (hts _ am_obj_ok.2.2.2.2.2.1) rfl hd rfl (nI_pos (by omega)) (nI_clamp (by omega)) (show n * 4 ≤ 536870912 by omega) h3 h4 rfl fun H1 cA e1 z1 o1 hAr hNm => ?_
      have hcA : cA = K.2.1 (am_ft 0) := by
        have h5 := (hK.2 0 _ (am_tysAt (by decide))).2
        exact Option.some.inj (hNm.symm.trans h5)
      have hcell : va_at K.1 am_cl (H.size, am_c K (.inl (0, n, .inl (fun _ => 0)))) H1 := by
        show H1[H.size]? = some (vp_cell (K.2.1 (am_ft 0)) (n, .inl (fun _ => 0)))
        rw [← hcA]
        exact e1
      obtain ⟨q1, q2, q3, q4⟩ := am_push (cn := .inl (0, n, .inl (fun _ => 0))) hA hP hD hS hal hle h1 z1 o1 hcell
      have h6 := hk _ _ _ _ _ _ h9 ls H1 locs hl q2 q3 q4 (am_alS hal h3 h4)
      rw [List.map_cons, show am_v K (.ref hp.length) = .ref H.size from by rw [← q1]; rfl] at h6
      exact h6
    | byte =>
      obtain ⟨x, r, rfl, n, rfl, h8⟩ := am_i1e h
      obtain ⟨h1, h9⟩ := am_te h8
      simp only [Bool.and_eq_true] at h1
      obtain ⟨⟨⟨h1, h2⟩, h3⟩, h4⟩ := h1
      have h2 := Nat.le_of_ble_eq_true h2
      have h3 := Nat.le_of_ble_eq_true h3
      have h4 := Nat.le_of_ble_eq_true h4
      refine va_newaK (atype := .byte) hx hb (hts _ am_obj_ok.2.2.2.2.2.2) rfl hd rfl (nI_pos (by omega)) (nI_clamp (by omega)) (show n * 1 ≤ 536870912 by omega) h3 h4 rfl fun H1 cA e1 z1 o1 hAr hNm => ?_
      have hcA : cA = K.2.1 (am_ft 1) := by
        have h5 := (hK.2 1 _ (am_tysAt (by decide))).2
        exact Option.some.inj (hNm.symm.trans h5)
      have hcell : va_at K.1 am_cl (H.size, am_c K (.inl (1, n, .inl (fun _ => 0)))) H1 := by
        show H1[H.size]? = some (vp_cell (K.2.1 (am_ft 1)) (n, .inl (fun _ => 0)))
        rw [← hcA]
        exact e1
      obtain ⟨q1, q2, q3, q4⟩ := am_push (cn := .inl (1, n, .inl (fun _ => 0))) hA hP hD hS hal hle h1 z1 o1 hcell
      have h6 := hk _ _ _ _ _ _ h9 ls H1 locs hl q2 q3 q4 (am_alS hal h3 h4)
      rw [List.map_cons, show am_v K (.ref hp.length) = .ref H.size from by rw [← q1]; rfl] at h6
      exact h6
    | _ => exact (show False from h).elim
  | anewarray n =>
    obtain ⟨rfl, hd⟩ := am_okDe hE1 2 rfl
    simp only [am_okX, Bool.and_eq_true, decide_eq_true_eq] at hE2
    obtain ⟨w1, w2⟩ := hE2
    obtain ⟨x, r, rfl, n', rfl, h8⟩ := am_i1e h
    obtain ⟨h1, h9⟩ := am_te h8
    simp only [Bool.and_eq_true] at h1
    obtain ⟨⟨⟨h1, h2⟩, h3⟩, h4⟩ := h1
    have h2 := Nat.le_of_ble_eq_true h2
    have h3 := Nat.le_of_ble_eq_true h3
    have h4 := Nat.le_of_ble_eq_true h4
    have e0 : (nI n').toNatClampNeg = n' := nI_clamp (by omega)
    have hft : am_ft (am_tag a) = .object (am_own a) ∧ va_AO (am_own a) s ∧ am_tag a < 4 := by
      rcases w2 with rfl | rfl
      · exact ⟨rfl, hNx.2.1, by decide⟩
      · exact ⟨rfl, hNx.2.2, by decide⟩
    refine W.anew hx hb hown (hts _ w1) (va_AO.use hft.2.1) rfl hd rfl (nI_pos (by omega)) (by rw [e0]; omega) h3 (by rw [e0]; exact h4) fun cA kA comp f1 f2 f3 f4 => ?_
    rw [e0]
    have hcA : cA = K.2.1 (am_ft (am_tag a)) := by
      have h5 := (hK.2 _ _ (am_tysAt hft.2.2)).2
      rw [hft.1] at h5 ⊢
      obtain ⟨_, _, _, _, _, h6⟩ := h5
      exact Option.some.inj (f1.symm.trans h6)
    generalize hH1 : H.push ({ cls := cA, slots := Array.replicate n' .null, vm := .none } : Cell) = H1
    have z1 : H1.size = H.size + 1 := by rw [← hH1, Array.size_push]
    have e1 : H1[H.size]? = some (arrV cA n' (fun _ => .null)) := by rw [← hH1, Array.getElem?_push_size, ← arrV_new]
    have o1 : ∀ q : Nat, q < H.size → H1[q]? = H[q]? := fun q hq => by rw [← hH1, Array.getElem?_push, if_neg (Nat.ne_of_lt hq)]
    have hcell : va_at K.1 am_cl (H.size, am_c K (.inl (am_tag a, n', .inr (.inr (.inr (.inr (fun _ => none))))))) H1 := by
      show H1[H.size]? = some (vp_cell (K.2.1 (am_ft (am_tag a))) (n', .inr (.inr (.inr (.inr (fun _ => none))))))
      rw [← hcA]
      exact e1
    obtain ⟨q1, q2, q3, q4⟩ := am_push (cn := .inl (am_tag a, n', .inr (.inr (.inr (.inr (fun _ => none)))))) hA hP hD hS hal hle h1 z1 o1 hcell
    have h6 := hk _ _ _ _ _ _ h9 ls H1 locs hl q2 q3 q4 (am_alS hal h3 h4)
    rw [List.map_cons, show am_v K (.ref hp.length) = .ref H.size from by rw [← q1]; rfl] at h6
    exact h6
  | _ => exact (show False from hgrp).elim
end AMN
section AMQ
variable {p : Program} {l : Launch} {e : Env} {s : State} {m : MethodId} {args : Array Value} {below : List Frame} {meth : Method} {c : Code} {K : Am_X} {oc nL : Nat} {cc : ByteArray} {rt : Option FieldType} {ini al : Bool} {d mc ms : Nat}
variable {pc : Nat} {loc : List (Option Value)} {st : List Value} {hp hp0 hpE : List Am_C} {nc ns : Nat} {r0 : Option Value}
variable {k : Am_K}
def am_post (r0 : Option Value) (hpE : List Am_C) (mc ms : Nat) : Option Value → List Am_C → Nat → Nat → Prop := fun v h n1 n2 => v = r0 ∧ h = hpE ∧ n1 = mc ∧ n2 = ms
abbrev am_Q (K : Am_X) (s : State) (args : Array Value) (below : List Frame) (hp0 hpE : List Am_C) (r0 : Option Value) (mc ms : Nat) : State → Prop := MQ below (am_Post K hp0 hpE s.heap.size r0) args s mc ms (am_fr K hp0 s.heap.size)
set_option maxHeartbeats 4000000 in
theorem am_okR {nx a b c' h0 : Nat} {i : Instr} (X : am_Cx K (am_fr K hp0 s.heap.size) p s m args meth c oc nL cc rt ini) (hE : am_okE oc cc (pc, i, nx, a, b, c') = true)
    (h : am_stp d mc ms al ini rt (am_post r0 hpE mc ms) k i nx a b c' pc loc st hp nc ns) (hgrp : match i with
      | .ireturn => True | .lreturn => True | .return_ => True | _ => False) :
    am_Go K (am_fr K hp0 s.heap.size) p l e s m args below meth c nL al h0 d mc ms (am_Q K s args below hp0 hpE r0 mc ms) pc loc st hp nc ns := by
  obtain ⟨hx, hb, hml, hrt, hlocks, hown, hts, hK, hTb, hA, hNx, hini⟩ := id X
  unfold am_okE at hE
  rw [Bool.and_eq_true] at hE
  obtain ⟨hE1, hE2⟩ := hE
  intro ls H locs hl hP hD hS hal
  cases i with
  | ireturn =>
    obtain ⟨rfl, hd⟩ := am_okDe hE1 0 rfl
    unfold am_stp at h
    dsimp only at h
    split at h
    · next v =>
      obtain ⟨rfl, rfl, rfl, rfl⟩ := h
      exact W.iret hx hb hrt (fun t ht hW => ⟨rfl, by rw [ht]; exact hP, hD, hS.F ht⟩) hS.2.2 hd hlocks
    · next v =>
      obtain ⟨hv, rfl, rfl, rfl, rfl⟩ := h
      exact W.zret hx hb hrt (by rcases hv with rfl | rfl <;> rfl) (fun t ht hW => ⟨rfl, by rw [ht]; exact hP, hD, hS.F ht⟩) hS.2.2 hd hlocks
    · exact h.elim
  | lreturn =>
    obtain ⟨rfl, hd⟩ := am_okDe hE1 0 rfl
    unfold am_stp at h
    dsimp only at h
    split at h
    · next v =>
      obtain ⟨rfl, rfl, rfl, rfl⟩ := h
      exact W.lret hx hb hrt (fun t ht hW => ⟨rfl, by rw [ht]; exact hP, hD, hS.F ht⟩) hS.2.2 hd hlocks
    · exact h.elim
  | return_ =>
    obtain ⟨rfl, hd⟩ := am_okDe hE1 0 rfl
    unfold am_stp at h
    dsimp only at h
    split at h
    · obtain ⟨rfl, rfl, rfl, rfl⟩ := h
      exact W.vret hx hb hrt (fun t ht hW => ⟨rfl, by rw [ht]; exact hP, hD, hS.F ht⟩) hS.2.2 hd hlocks
    · exact h.elim
  | _ => exact (show False from hgrp).elim
theorem am_okI {nx a b c' h0 : Nat} {i : Instr} (X : am_Cx K (am_fr K hp0 s.heap.size) p s m args meth c oc nL cc rt ini) (hE : am_okE oc cc (pc, i, nx, a, b, c') = true)
    (hk : ∀ pc loc st hp nc ns, k pc loc st hp nc ns → am_Go K (am_fr K hp0 s.heap.size) p l e s m args below meth c nL al h0 d mc ms (am_Q K s args below hp0 hpE r0 mc ms) pc loc st hp nc ns)
    (h : am_stp d mc ms al ini rt (am_post r0 hpE mc ms) k i nx a b c' pc loc st hp nc ns) :
    am_Go K (am_fr K hp0 s.heap.size) p l e s m args below meth c nL al h0 d mc ms (am_Q K s args below hp0 hpE r0 mc ms) pc loc st hp nc ns := by
  by_cases g0 : am_grp i = 0
  · exact am_okS X hE hk h g0
  by_cases g1 : am_grp i = 1
  · exact am_okH X hE hk h g1
  cases i with
  | invokevirtual n => exact am_okC X hE hk h trivial
  | invokestatic n => exact am_okC X hE hk h trivial
  | invokespecial n => exact am_okC X hE hk h trivial
  | new n => exact am_okA X hE hk h trivial
  | newarray n => exact am_okA X hE hk h trivial
  | anewarray n => exact am_okA X hE hk h trivial
  | ireturn => exact am_okR X hE h trivial
  | lreturn => exact am_okR X hE h trivial
  | return_ => exact am_okR X hE h trivial
  | _ => first | exact absurd rfl g0 | exact absurd rfl g1
theorem am_okB {h0 : Nat} {cd : List Am_E} {cuts : List Nat} {Go : Am_K} (X : am_Cx K (am_fr K hp0 s.heap.size) p s m args meth c oc nL cc rt ini) (hcd : ∀ e ∈ cd, am_okE oc cc e = true)
    (hGo : ∀ pc loc st hp nc ns, Go pc loc st hp nc ns → am_Go K (am_fr K hp0 s.heap.size) p l e s m args below meth c nL al h0 d mc ms (am_Q K s args below hp0 hpE r0 mc ms) pc loc st hp nc ns) :
    ∀ (n : Nat) pc loc st hp nc ns, am_blk cd cuts d mc ms al ini rt (am_post r0 hpE mc ms) Go n pc loc st hp nc ns → am_Go K (am_fr K hp0 s.heap.size) p l e s m args below meth c nL al h0 d mc ms (am_Q K s args below hp0 hpE r0 mc ms) pc loc st hp nc ns
  | 0, pc, loc, st, hp, nc, ns, h => (show False from h).elim
  | n + 1, pc, loc, st, hp, nc, ns, h => by
    have ih := am_okB (cuts := cuts) X hcd hGo n
    unfold am_blk at h
    split at h
    · exact h.elim
    · next i nx a b c' hlk =>
      refine am_okI X (hcd _ (am_lk_in hlk)) (fun pc' loc' st' hp' nc' ns' h' => ?_) h
      cases hb : cuts.elem pc' with
      | true => rw [hb] at h'; exact hGo _ _ _ _ _ _ h'
      | false => rw [hb] at h'; exact ih _ _ _ _ _ _ h'
end AMQ
/-- a method's code table is right -/
def am_okM (mi : Nat) (cd : List Am_E) : Prop := cd.all (am_okE (am_m mi).2.2.2.2 (am_m mi).2.1) = true
/-- THE RULE: a contract out of the abstract machine -/
theorem am_ev {al : Bool} {d mc ms mi : Nat} {args : List Value} {hp : List Am_C} {r : Option Value} {hp' : List Am_C} {cd : List Am_E} (nL : Nat) (rt : Option FieldType) (ini : Bool) (cuts : List Nat) (hok : am_okM mi cd) (hm : am_mP mi) (hnL : (am_m mi).2.2.1 = nL) (hrt : (am_m mi).2.2.2.1 = rt) (hini : ini = true → (am_m mi).1.name = "<init>") (hlen : (am_l0 args).length ≤ nL)
    (body : ∀ Go : Am_K, (∀ (n pc : Nat) (loc : List (Option Value)) (st : List Value) (hp : List Am_C) (nc ns : Nat), am_blk cd cuts d mc ms al ini rt (am_post r hp' mc ms) Go n pc loc st hp nc ns → Go pc loc st hp nc ns) → Go 0 (am_loc nL args) [] hp 0 0) : Am_Ev al d mc ms mi args hp r hp' := by
  intro l K sz
  refine Met.ofW (cc := (am_m mi).2.1) (maxL := (am_m mi).2.2.1) (ret := (am_m mi).2.2.2.1) hm.2.2.2.2.1 rfl ?_
  intro p e s m ar below meth c s₁ B hml hv
  obtain ⟨rfl, hsz, hP, hK, hD0, hTb, hNx, hrd⟩ := hv
  subst hsz
  have hts : ∀ w ∈ am_TB, w.before ((args.map (am_v K)).toArray) s = true := fun w hw => atoms_spec (ws := am_ws mi) B.pre w (List.mem_cons_of_mem _ hw)
  have hown : s.vm.findClass (am_own (am_m mi).2.2.2.2) = some m.cls := by
    rw [← hm.2.2.2.2.2]
    exact findClass_of_methodNamed B.named
  have X : am_Cx K (am_fr K hp s.heap.size) p s m ((args.map (am_v K)).toArray) meth c (am_m mi).2.2.2.2 nL (am_m mi).2.1 rt ini := ⟨B.exec, B.bytes, by rw [hml]; exact hnL, by rw [B.returns]; exact hrt, B.notSynchronized, hown, hts, hK, hTb, fun q h => Or.inr h, hNx, fun q => by rw [← hini q]; exact (name_of_methodNamed B.named B.method).1⟩
  have hG := body (am_Go K (am_fr K hp s.heap.size) p l e s m ((args.map (am_v K)).toArray) below meth c nL al hp.length d mc ms (am_Q K s ((args.map (am_v K)).toArray) below hp hp' r mc ms)) (fun n pc loc st hp1 nc ns h => am_okB X (fun e he => List.all_eq_true.mp hok e he) (fun _ _ _ _ _ _ h => h) n pc loc st hp1 nc ns h)
  rw [hnL, lg_entry_eq]
  exact hG _ s.heap [] (am_R_entry K args hlen) hP hD0.self va_S.rf ⟨⟨Nat.zero_le _, Nat.zero_le _⟩, fun q => ⟨rfl, hrd q⟩⟩
end
