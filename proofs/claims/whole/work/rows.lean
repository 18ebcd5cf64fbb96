section
-- ===== PART A: goes FIRST, ahead of the names: the tables' words, and 'selects' of the private methods out of them =====
/-- a private method of a class that the tables say can be made, by its rows of tables_1 -/
def lw_okq (q : MethodName × Nat) : Prop := (q.1.cls ≠ "java/lang/invoke/MethodHandle" ∧ q.1.cls ≠ "java/lang/invoke/VarHandle") ∧ Cond.instantiable q.1.cls q.2 ∈ tables_1 ∧ Cond.privateMethod q.1 ∈ tables_1 ∧ Cond.instanceMethod q.1 ∈ tables_1
theorem lw_p0 : lw_okq (⟨"ThingsThrown", "found", "(I)I"⟩, 13) := ⟨⟨by decide +kernel, by decide +kernel⟩, List.mem_of_getElem? (i := 14) (by decide +kernel), List.mem_of_getElem? (i := 197) (by decide +kernel), List.mem_of_getElem? (i := 198) (by decide +kernel)⟩
theorem lw_p1 : lw_okq (⟨"ThingsThrown", "refusalOfPlace", "(II)I"⟩, 13) := ⟨⟨by decide +kernel, by decide +kernel⟩, List.mem_of_getElem? (i := 14) (by decide +kernel), List.mem_of_getElem? (i := 215) (by decide +kernel), List.mem_of_getElem? (i := 216) (by decide +kernel)⟩
theorem lw_p2 : lw_okq (⟨"ThingsThrown", "refusalOfRow", "(I)I"⟩, 13) := ⟨⟨by decide +kernel, by decide +kernel⟩, List.mem_of_getElem? (i := 14) (by decide +kernel), List.mem_of_getElem? (i := 219) (by decide +kernel), List.mem_of_getElem? (i := 220) (by decide +kernel)⟩
theorem lw_p3 : lw_okq (⟨"ThingsThrown", "tell", "(I)I"⟩, 13) := ⟨⟨by decide +kernel, by decide +kernel⟩, List.mem_of_getElem? (i := 14) (by decide +kernel), List.mem_of_getElem? (i := 231) (by decide +kernel), List.mem_of_getElem? (i := 232) (by decide +kernel)⟩
theorem lw_p4 : lw_okq (⟨"ThingsThrown", "refusalOfText", "(I)I"⟩, 13) := ⟨⟨by decide +kernel, by decide +kernel⟩, List.mem_of_getElem? (i := 14) (by decide +kernel), List.mem_of_getElem? (i := 269) (by decide +kernel), List.mem_of_getElem? (i := 270) (by decide +kernel)⟩
theorem lw_p5 : lw_okq (⟨"ThingsThrown$Telling", "isFreeFigure", "(I)Z"⟩, 2) := ⟨⟨by decide +kernel, by decide +kernel⟩, List.mem_of_getElem? (i := 24) (by decide +kernel), List.mem_of_getElem? (i := 290) (by decide +kernel), List.mem_of_getElem? (i := 291) (by decide +kernel)⟩
theorem lw_p6 : lw_okq (⟨"ThingsThrown", "isThing", "(I)Z"⟩, 13) := ⟨⟨by decide +kernel, by decide +kernel⟩, List.mem_of_getElem? (i := 14) (by decide +kernel), List.mem_of_getElem? (i := 325) (by decide +kernel), List.mem_of_getElem? (i := 326) (by decide +kernel)⟩
theorem lw_p7 : lw_okq (⟨"ThingsThrown", "ofThing", "(II)I"⟩, 13) := ⟨⟨by decide +kernel, by decide +kernel⟩, List.mem_of_getElem? (i := 14) (by decide +kernel), List.mem_of_getElem? (i := 329) (by decide +kernel), List.mem_of_getElem? (i := 330) (by decide +kernel)⟩
theorem lw_p8 : lw_okq (⟨"ThingsThrown", "enterThrow", "(I)V"⟩, 13) := ⟨⟨by decide +kernel, by decide +kernel⟩, List.mem_of_getElem? (i := 14) (by decide +kernel), List.mem_of_getElem? (i := 393) (by decide +kernel), List.mem_of_getElem? (i := 394) (by decide +kernel)⟩
theorem lw_p9 : lw_okq (⟨"ThingsThrown", "skyNow", "()I"⟩, 13) := ⟨⟨by decide +kernel, by decide +kernel⟩, List.mem_of_getElem? (i := 14) (by decide +kernel), List.mem_of_getElem? (i := 417) (by decide +kernel), List.mem_of_getElem? (i := 418) (by decide +kernel)⟩
theorem lw_p10 : lw_okq (⟨"ThingsThrown", "enterRest", "()V"⟩, 13) := ⟨⟨by decide +kernel, by decide +kernel⟩, List.mem_of_getElem? (i := 14) (by decide +kernel), List.mem_of_getElem? (i := 426) (by decide +kernel), List.mem_of_getElem? (i := 427) (by decide +kernel)⟩
theorem lw_p11 : lw_okq (⟨"ThingsThrown", "enterExchange", "(II)V"⟩, 13) := ⟨⟨by decide +kernel, by decide +kernel⟩, List.mem_of_getElem? (i := 14) (by decide +kernel), List.mem_of_getElem? (i := 435) (by decide +kernel), List.mem_of_getElem? (i := 436) (by decide +kernel)⟩
theorem lw_p12 : lw_okq (⟨"ThingsThrown", "refusalOfThrows", "(III)I"⟩, 13) := ⟨⟨by decide +kernel, by decide +kernel⟩, List.mem_of_getElem? (i := 14) (by decide +kernel), List.mem_of_getElem? (i := 484) (by decide +kernel), List.mem_of_getElem? (i := 485) (by decide +kernel)⟩
theorem lw_p13 : lw_okq (⟨"ThingsThrown$Outlook", "comesToDues", "(II)Z"⟩, 4) := ⟨⟨by decide +kernel, by decide +kernel⟩, List.mem_of_getElem? (i := 92) (by decide +kernel), List.mem_of_getElem? (i := 512) (by decide +kernel), List.mem_of_getElem? (i := 513) (by decide +kernel)⟩
theorem lw_p14 : lw_okq (⟨"ThingsThrown$Outlook", "leadsTo", "(IIII)Z"⟩, 4) := ⟨⟨by decide +kernel, by decide +kernel⟩, List.mem_of_getElem? (i := 92) (by decide +kernel), List.mem_of_getElem? (i := 536) (by decide +kernel), List.mem_of_getElem? (i := 537) (by decide +kernel)⟩
theorem lw_p15 : lw_okq (⟨"ThingsThrown$Outlook", "comesToSky", "(II)Z"⟩, 4) := ⟨⟨by decide +kernel, by decide +kernel⟩, List.mem_of_getElem? (i := 92) (by decide +kernel), List.mem_of_getElem? (i := 540) (by decide +kernel), List.mem_of_getElem? (i := 541) (by decide +kernel)⟩
def lw_privs_1 : List (MethodName × Nat) := [(⟨"ThingsThrown", "found", "(I)I"⟩, 13), (⟨"ThingsThrown", "refusalOfPlace", "(II)I"⟩, 13), (⟨"ThingsThrown", "refusalOfRow", "(I)I"⟩, 13), (⟨"ThingsThrown", "tell", "(I)I"⟩, 13), (⟨"ThingsThrown", "refusalOfText", "(I)I"⟩, 13), (⟨"ThingsThrown$Telling", "isFreeFigure", "(I)Z"⟩, 2), (⟨"ThingsThrown", "isThing", "(I)Z"⟩, 13), (⟨"ThingsThrown", "ofThing", "(II)I"⟩, 13), (⟨"ThingsThrown", "enterThrow", "(I)V"⟩, 13), (⟨"ThingsThrown", "skyNow", "()I"⟩, 13), (⟨"ThingsThrown", "enterRest", "()V"⟩, 13), (⟨"ThingsThrown", "enterExchange", "(II)V"⟩, 13), (⟨"ThingsThrown", "refusalOfThrows", "(III)I"⟩, 13), (⟨"ThingsThrown$Outlook", "comesToDues", "(II)Z"⟩, 4), (⟨"ThingsThrown$Outlook", "leadsTo", "(IIII)Z"⟩, 4), (⟨"ThingsThrown$Outlook", "comesToSky", "(II)Z"⟩, 4)]
theorem lw_r1 : ∀ q ∈ lw_privs_1, lw_okq q := List.forall_mem_cons.mpr ⟨lw_p0, List.forall_mem_cons.mpr ⟨lw_p1, List.forall_mem_cons.mpr ⟨lw_p2, List.forall_mem_cons.mpr ⟨lw_p3, List.forall_mem_cons.mpr ⟨lw_p4, List.forall_mem_cons.mpr ⟨lw_p5, List.forall_mem_cons.mpr ⟨lw_p6, List.forall_mem_cons.mpr ⟨lw_p7, List.forall_mem_cons.mpr ⟨lw_p8, List.forall_mem_cons.mpr ⟨lw_p9, List.forall_mem_cons.mpr ⟨lw_p10, List.forall_mem_cons.mpr ⟨lw_p11, List.forall_mem_cons.mpr ⟨lw_p12, List.forall_mem_cons.mpr ⟨lw_p13, List.forall_mem_cons.mpr ⟨lw_p14, List.forall_mem_cons.mpr ⟨lw_p15, fun _ h => absurd h List.not_mem_nil⟩⟩⟩⟩⟩⟩⟩⟩⟩⟩⟩⟩⟩⟩⟩⟩
theorem lw_p16 : lw_okq (⟨"ThingsThrown$Outlook", "waysTo", "(III)J"⟩, 4) := ⟨⟨by decide +kernel, by decide +kernel⟩, List.mem_of_getElem? (i := 92) (by decide +kernel), List.mem_of_getElem? (i := 554) (by decide +kernel), List.mem_of_getElem? (i := 555) (by decide +kernel)⟩
theorem lw_p17 : lw_okq (⟨"ThingsThrown", "tellRatio", "(JJ)I"⟩, 13) := ⟨⟨by decide +kernel, by decide +kernel⟩, List.mem_of_getElem? (i := 14) (by decide +kernel), List.mem_of_getElem? (i := 558) (by decide +kernel), List.mem_of_getElem? (i := 559) (by decide +kernel)⟩
theorem lw_p18 : lw_okq (⟨"ThingsThrown", "refusalOfPairs", "(II)I"⟩, 13) := ⟨⟨by decide +kernel, by decide +kernel⟩, List.mem_of_getElem? (i := 14) (by decide +kernel), List.mem_of_getElem? (i := 577) (by decide +kernel), List.mem_of_getElem? (i := 578) (by decide +kernel)⟩
theorem lw_p19 : lw_okq (⟨"ThingsThrown$Outlook", "bestFrom", "(II)I"⟩, 4) := ⟨⟨by decide +kernel, by decide +kernel⟩, List.mem_of_getElem? (i := 92) (by decide +kernel), List.mem_of_getElem? (i := 609) (by decide +kernel), List.mem_of_getElem? (i := 610) (by decide +kernel)⟩
theorem lw_p20 : lw_okq (⟨"ThingsThrown", "refusalOfChances", "(II)I"⟩, 13) := ⟨⟨by decide +kernel, by decide +kernel⟩, List.mem_of_getElem? (i := 14) (by decide +kernel), List.mem_of_getElem? (i := 625) (by decide +kernel), List.mem_of_getElem? (i := 626) (by decide +kernel)⟩
theorem lw_p21 : lw_okq (⟨"ThingsThrown$Chances", "weightFrom", "(ILThingsThrown$Sheet;IIZ)J"⟩, 1) := ⟨⟨by decide +kernel, by decide +kernel⟩, List.mem_of_getElem? (i := 114) (by decide +kernel), List.mem_of_getElem? (i := 633) (by decide +kernel), List.mem_of_getElem? (i := 634) (by decide +kernel)⟩
theorem lw_p22 : lw_okq (⟨"ThingsThrown", "enterByLot", "(I)V"⟩, 13) := ⟨⟨by decide +kernel, by decide +kernel⟩, List.mem_of_getElem? (i := 14) (by decide +kernel), List.mem_of_getElem? (i := 661) (by decide +kernel), List.mem_of_getElem? (i := 662) (by decide +kernel)⟩
theorem lw_p23 : lw_okq (⟨"ThingsThrown", "enterThrowFrom", "(I)V"⟩, 13) := ⟨⟨by decide +kernel, by decide +kernel⟩, List.mem_of_getElem? (i := 14) (by decide +kernel), List.mem_of_getElem? (i := 665) (by decide +kernel), List.mem_of_getElem? (i := 666) (by decide +kernel)⟩
theorem lw_p24 : lw_okq (⟨"ThingsThrown", "skiesKept", "()I"⟩, 13) := ⟨⟨by decide +kernel, by decide +kernel⟩, List.mem_of_getElem? (i := 14) (by decide +kernel), List.mem_of_getElem? (i := 698) (by decide +kernel), List.mem_of_getElem? (i := 699) (by decide +kernel)⟩
theorem lw_p25 : lw_okq (⟨"ThingsThrownModel", "found", "(I)I"⟩, 17) := ⟨⟨by decide +kernel, by decide +kernel⟩, List.mem_of_getElem? (i := 720) (by decide +kernel), List.mem_of_getElem? (i := 789) (by decide +kernel), List.mem_of_getElem? (i := 790) (by decide +kernel)⟩
theorem lw_p26 : lw_okq (⟨"ThingsThrownModel", "wrongPlace", "(II)I"⟩, 17) := ⟨⟨by decide +kernel, by decide +kernel⟩, List.mem_of_getElem? (i := 720) (by decide +kernel), List.mem_of_getElem? (i := 797) (by decide +kernel), List.mem_of_getElem? (i := 798) (by decide +kernel)⟩
theorem lw_p27 : lw_okq (⟨"ThingsThrownModel", "tell", "(I)I"⟩, 17) := ⟨⟨by decide +kernel, by decide +kernel⟩, List.mem_of_getElem? (i := 720) (by decide +kernel), List.mem_of_getElem? (i := 801) (by decide +kernel), List.mem_of_getElem? (i := 802) (by decide +kernel)⟩
theorem lw_p28 : lw_okq (⟨"ThingsThrownModel", "isPart", "(III)Z"⟩, 17) := ⟨⟨by decide +kernel, by decide +kernel⟩, List.mem_of_getElem? (i := 720) (by decide +kernel), List.mem_of_getElem? (i := 817) (by decide +kernel), List.mem_of_getElem? (i := 818) (by decide +kernel)⟩
theorem lw_p29 : lw_okq (⟨"ThingsThrownModel", "readText", "(I)I"⟩, 17) := ⟨⟨by decide +kernel, by decide +kernel⟩, List.mem_of_getElem? (i := 720) (by decide +kernel), List.mem_of_getElem? (i := 840) (by decide +kernel), List.mem_of_getElem? (i := 841) (by decide +kernel)⟩
theorem lw_p30 : lw_okq (⟨"ThingsThrownModel", "byteAt", "(II)I"⟩, 17) := ⟨⟨by decide +kernel, by decide +kernel⟩, List.mem_of_getElem? (i := 720) (by decide +kernel), List.mem_of_getElem? (i := 844) (by decide +kernel), List.mem_of_getElem? (i := 845) (by decide +kernel)⟩
theorem lw_p31 : lw_okq (⟨"ThingsThrownModel", "isDueRead", "(I)Z"⟩, 17) := ⟨⟨by decide +kernel, by decide +kernel⟩, List.mem_of_getElem? (i := 720) (by decide +kernel), List.mem_of_getElem? (i := 851) (by decide +kernel), List.mem_of_getElem? (i := 852) (by decide +kernel)⟩
def lw_privs_2 : List (MethodName × Nat) := [(⟨"ThingsThrown$Outlook", "waysTo", "(III)J"⟩, 4), (⟨"ThingsThrown", "tellRatio", "(JJ)I"⟩, 13), (⟨"ThingsThrown", "refusalOfPairs", "(II)I"⟩, 13), (⟨"ThingsThrown$Outlook", "bestFrom", "(II)I"⟩, 4), (⟨"ThingsThrown", "refusalOfChances", "(II)I"⟩, 13), (⟨"ThingsThrown$Chances", "weightFrom", "(ILThingsThrown$Sheet;IIZ)J"⟩, 1), (⟨"ThingsThrown", "enterByLot", "(I)V"⟩, 13), (⟨"ThingsThrown", "enterThrowFrom", "(I)V"⟩, 13), (⟨"ThingsThrown", "skiesKept", "()I"⟩, 13), (⟨"ThingsThrownModel", "found", "(I)I"⟩, 17), (⟨"ThingsThrownModel", "wrongPlace", "(II)I"⟩, 17), (⟨"ThingsThrownModel", "tell", "(I)I"⟩, 17), (⟨"ThingsThrownModel", "isPart", "(III)Z"⟩, 17), (⟨"ThingsThrownModel", "readText", "(I)I"⟩, 17), (⟨"ThingsThrownModel", "byteAt", "(II)I"⟩, 17), (⟨"ThingsThrownModel", "isDueRead", "(I)Z"⟩, 17)]
theorem lw_r2 : ∀ q ∈ lw_privs_2, lw_okq q := List.forall_mem_cons.mpr ⟨lw_p16, List.forall_mem_cons.mpr ⟨lw_p17, List.forall_mem_cons.mpr ⟨lw_p18, List.forall_mem_cons.mpr ⟨lw_p19, List.forall_mem_cons.mpr ⟨lw_p20, List.forall_mem_cons.mpr ⟨lw_p21, List.forall_mem_cons.mpr ⟨lw_p22, List.forall_mem_cons.mpr ⟨lw_p23, List.forall_mem_cons.mpr ⟨lw_p24, List.forall_mem_cons.mpr ⟨lw_p25, List.forall_mem_cons.mpr ⟨lw_p26, List.forall_mem_cons.mpr ⟨lw_p27, List.forall_mem_cons.mpr ⟨lw_p28, List.forall_mem_cons.mpr ⟨lw_p29, List.forall_mem_cons.mpr ⟨lw_p30, List.forall_mem_cons.mpr ⟨lw_p31, fun _ h => absurd h List.not_mem_nil⟩⟩⟩⟩⟩⟩⟩⟩⟩⟩⟩⟩⟩⟩⟩⟩
theorem lw_p32 : lw_okq (⟨"ThingsThrownModel", "isThing", "(I)Z"⟩, 17) := ⟨⟨by decide +kernel, by decide +kernel⟩, List.mem_of_getElem? (i := 720) (by decide +kernel), List.mem_of_getElem? (i := 863) (by decide +kernel), List.mem_of_getElem? (i := 864) (by decide +kernel)⟩
theorem lw_p33 : lw_okq (⟨"ThingsThrownModel", "torchesAhead", "(I)I"⟩, 17) := ⟨⟨by decide +kernel, by decide +kernel⟩, List.mem_of_getElem? (i := 720) (by decide +kernel), List.mem_of_getElem? (i := 880) (by decide +kernel), List.mem_of_getElem? (i := 881) (by decide +kernel)⟩
theorem lw_p34 : lw_okq (⟨"ThingsThrownModel", "thingsBehind", "(I)I"⟩, 17) := ⟨⟨by decide +kernel, by decide +kernel⟩, List.mem_of_getElem? (i := 720) (by decide +kernel), List.mem_of_getElem? (i := 884) (by decide +kernel), List.mem_of_getElem? (i := 885) (by decide +kernel)⟩
theorem lw_p35 : lw_okq (⟨"ThingsThrownModel", "mayAt", "(II)Z"⟩, 17) := ⟨⟨by decide +kernel, by decide +kernel⟩, List.mem_of_getElem? (i := 720) (by decide +kernel), List.mem_of_getElem? (i := 895) (by decide +kernel), List.mem_of_getElem? (i := 896) (by decide +kernel)⟩
theorem lw_p36 : lw_okq (⟨"ThingsThrownModel", "dueAt", "(I)I"⟩, 17) := ⟨⟨by decide +kernel, by decide +kernel⟩, List.mem_of_getElem? (i := 720) (by decide +kernel), List.mem_of_getElem? (i := 899) (by decide +kernel), List.mem_of_getElem? (i := 900) (by decide +kernel)⟩
theorem lw_p37 : lw_okq (⟨"ThingsThrownModel", "skyAt", "(I)I"⟩, 17) := ⟨⟨by decide +kernel, by decide +kernel⟩, List.mem_of_getElem? (i := 720) (by decide +kernel), List.mem_of_getElem? (i := 903) (by decide +kernel), List.mem_of_getElem? (i := 904) (by decide +kernel)⟩
theorem lw_p38 : lw_okq (⟨"ThingsThrownModel", "remember", "()V"⟩, 17) := ⟨⟨by decide +kernel, by decide +kernel⟩, List.mem_of_getElem? (i := 720) (by decide +kernel), List.mem_of_getElem? (i := 910) (by decide +kernel), List.mem_of_getElem? (i := 911) (by decide +kernel)⟩
theorem lw_p39 : lw_okq (⟨"ThingsThrownModel", "copyRow", "(III)V"⟩, 17) := ⟨⟨by decide +kernel, by decide +kernel⟩, List.mem_of_getElem? (i := 720) (by decide +kernel), List.mem_of_getElem? (i := 914) (by decide +kernel), List.mem_of_getElem? (i := 915) (by decide +kernel)⟩
theorem lw_p40 : lw_okq (⟨"ThingsThrownModel", "tossAt", "(II)V"⟩, 17) := ⟨⟨by decide +kernel, by decide +kernel⟩, List.mem_of_getElem? (i := 720) (by decide +kernel), List.mem_of_getElem? (i := 918) (by decide +kernel), List.mem_of_getElem? (i := 919) (by decide +kernel)⟩
theorem lw_p41 : lw_okq (⟨"ThingsThrownModel", "later", "(I)V"⟩, 17) := ⟨⟨by decide +kernel, by decide +kernel⟩, List.mem_of_getElem? (i := 720) (by decide +kernel), List.mem_of_getElem? (i := 922) (by decide +kernel), List.mem_of_getElem? (i := 923) (by decide +kernel)⟩
theorem lw_p42 : lw_okq (⟨"ThingsThrownModel", "swap", "(II)V"⟩, 17) := ⟨⟨by decide +kernel, by decide +kernel⟩, List.mem_of_getElem? (i := 720) (by decide +kernel), List.mem_of_getElem? (i := 934) (by decide +kernel), List.mem_of_getElem? (i := 935) (by decide +kernel)⟩
theorem lw_p43 : lw_okq (⟨"ThingsThrownModel", "heightsAt", "(I)I"⟩, 17) := ⟨⟨by decide +kernel, by decide +kernel⟩, List.mem_of_getElem? (i := 720) (by decide +kernel), List.mem_of_getElem? (i := 958) (by decide +kernel), List.mem_of_getElem? (i := 959) (by decide +kernel)⟩
theorem lw_p44 : lw_okq (⟨"ThingsThrownModel", "wrongHeights", "(III)I"⟩, 17) := ⟨⟨by decide +kernel, by decide +kernel⟩, List.mem_of_getElem? (i := 720) (by decide +kernel), List.mem_of_getElem? (i := 966) (by decide +kernel), List.mem_of_getElem? (i := 967) (by decide +kernel)⟩
theorem lw_p45 : lw_okq (⟨"ThingsThrownModel", "beginTry", "()V"⟩, 17) := ⟨⟨by decide +kernel, by decide +kernel⟩, List.mem_of_getElem? (i := 720) (by decide +kernel), List.mem_of_getElem? (i := 970) (by decide +kernel), List.mem_of_getElem? (i := 971) (by decide +kernel)⟩
theorem lw_p46 : lw_okq (⟨"ThingsThrownModel", "restsAt", "(I)V"⟩, 17) := ⟨⟨by decide +kernel, by decide +kernel⟩, List.mem_of_getElem? (i := 720) (by decide +kernel), List.mem_of_getElem? (i := 974) (by decide +kernel), List.mem_of_getElem? (i := 975) (by decide +kernel)⟩
theorem lw_p47 : lw_okq (⟨"ThingsThrownModel", "isAsNow", "()Z"⟩, 17) := ⟨⟨by decide +kernel, by decide +kernel⟩, List.mem_of_getElem? (i := 720) (by decide +kernel), List.mem_of_getElem? (i := 982) (by decide +kernel), List.mem_of_getElem? (i := 983) (by decide +kernel)⟩
def lw_privs_3 : List (MethodName × Nat) := [(⟨"ThingsThrownModel", "isThing", "(I)Z"⟩, 17), (⟨"ThingsThrownModel", "torchesAhead", "(I)I"⟩, 17), (⟨"ThingsThrownModel", "thingsBehind", "(I)I"⟩, 17), (⟨"ThingsThrownModel", "mayAt", "(II)Z"⟩, 17), (⟨"ThingsThrownModel", "dueAt", "(I)I"⟩, 17), (⟨"ThingsThrownModel", "skyAt", "(I)I"⟩, 17), (⟨"ThingsThrownModel", "remember", "()V"⟩, 17), (⟨"ThingsThrownModel", "copyRow", "(III)V"⟩, 17), (⟨"ThingsThrownModel", "tossAt", "(II)V"⟩, 17), (⟨"ThingsThrownModel", "later", "(I)V"⟩, 17), (⟨"ThingsThrownModel", "swap", "(II)V"⟩, 17), (⟨"ThingsThrownModel", "heightsAt", "(I)I"⟩, 17), (⟨"ThingsThrownModel", "wrongHeights", "(III)I"⟩, 17), (⟨"ThingsThrownModel", "beginTry", "()V"⟩, 17), (⟨"ThingsThrownModel", "restsAt", "(I)V"⟩, 17), (⟨"ThingsThrownModel", "isAsNow", "()Z"⟩, 17)]
theorem lw_r3 : ∀ q ∈ lw_privs_3, lw_okq q := List.forall_mem_cons.mpr ⟨lw_p32, List.forall_mem_cons.mpr ⟨lw_p33, List.forall_mem_cons.mpr ⟨lw_p34, List.forall_mem_cons.mpr ⟨lw_p35, List.forall_mem_cons.mpr ⟨lw_p36, List.forall_mem_cons.mpr ⟨lw_p37, List.forall_mem_cons.mpr ⟨lw_p38, List.forall_mem_cons.mpr ⟨lw_p39, List.forall_mem_cons.mpr ⟨lw_p40, List.forall_mem_cons.mpr ⟨lw_p41, List.forall_mem_cons.mpr ⟨lw_p42, List.forall_mem_cons.mpr ⟨lw_p43, List.forall_mem_cons.mpr ⟨lw_p44, List.forall_mem_cons.mpr ⟨lw_p45, List.forall_mem_cons.mpr ⟨lw_p46, List.forall_mem_cons.mpr ⟨lw_p47, fun _ h => absurd h List.not_mem_nil⟩⟩⟩⟩⟩⟩⟩⟩⟩⟩⟩⟩⟩⟩⟩⟩
theorem lw_p48 : lw_okq (⟨"ThingsThrownModel", "canThrow", "(II)Z"⟩, 17) := ⟨⟨by decide +kernel, by decide +kernel⟩, List.mem_of_getElem? (i := 720) (by decide +kernel), List.mem_of_getElem? (i := 997) (by decide +kernel), List.mem_of_getElem? (i := 998) (by decide +kernel)⟩
theorem lw_p49 : lw_okq (⟨"ThingsThrownModel", "comesTo", "(I)Z"⟩, 17) := ⟨⟨by decide +kernel, by decide +kernel⟩, List.mem_of_getElem? (i := 720) (by decide +kernel), List.mem_of_getElem? (i := 1004) (by decide +kernel), List.mem_of_getElem? (i := 1005) (by decide +kernel)⟩
theorem lw_p50 : lw_okq (⟨"ThingsThrownModel", "wrongPairs", "(II)I"⟩, 17) := ⟨⟨by decide +kernel, by decide +kernel⟩, List.mem_of_getElem? (i := 720) (by decide +kernel), List.mem_of_getElem? (i := 1020) (by decide +kernel), List.mem_of_getElem? (i := 1021) (by decide +kernel)⟩
theorem lw_p51 : lw_okq (⟨"ThingsThrownModel", "kindsBy", "(I)I"⟩, 17) := ⟨⟨by decide +kernel, by decide +kernel⟩, List.mem_of_getElem? (i := 720) (by decide +kernel), List.mem_of_getElem? (i := 1024) (by decide +kernel), List.mem_of_getElem? (i := 1025) (by decide +kernel)⟩
theorem lw_p52 : lw_okq (⟨"ThingsThrownModel", "worthOf", "(III)I"⟩, 17) := ⟨⟨by decide +kernel, by decide +kernel⟩, List.mem_of_getElem? (i := 720) (by decide +kernel), List.mem_of_getElem? (i := 1042) (by decide +kernel), List.mem_of_getElem? (i := 1043) (by decide +kernel)⟩
theorem lw_p53 : lw_okq (⟨"ThingsThrownModel", "sumAt", "(I)I"⟩, 17) := ⟨⟨by decide +kernel, by decide +kernel⟩, List.mem_of_getElem? (i := 720) (by decide +kernel), List.mem_of_getElem? (i := 1047) (by decide +kernel), List.mem_of_getElem? (i := 1048) (by decide +kernel)⟩
theorem lw_p54 : lw_okq (⟨"ThingsThrownModel", "bestOf", "(II)I"⟩, 17) := ⟨⟨by decide +kernel, by decide +kernel⟩, List.mem_of_getElem? (i := 720) (by decide +kernel), List.mem_of_getElem? (i := 1051) (by decide +kernel), List.mem_of_getElem? (i := 1052) (by decide +kernel)⟩
theorem lw_p55 : lw_okq (⟨"ThingsThrownModel", "chances", "(IIZ)I"⟩, 17) := ⟨⟨by decide +kernel, by decide +kernel⟩, List.mem_of_getElem? (i := 720) (by decide +kernel), List.mem_of_getElem? (i := 1059) (by decide +kernel), List.mem_of_getElem? (i := 1060) (by decide +kernel)⟩
theorem lw_p56 : lw_okq (⟨"ThingsThrownModel", "wrongChance", "(II)I"⟩, 17) := ⟨⟨by decide +kernel, by decide +kernel⟩, List.mem_of_getElem? (i := 720) (by decide +kernel), List.mem_of_getElem? (i := 1063) (by decide +kernel), List.mem_of_getElem? (i := 1064) (by decide +kernel)⟩
theorem lw_p57 : lw_okq (⟨"ThingsThrownModel", "madeWith", "(II)I"⟩, 17) := ⟨⟨by decide +kernel, by decide +kernel⟩, List.mem_of_getElem? (i := 720) (by decide +kernel), List.mem_of_getElem? (i := 1068) (by decide +kernel), List.mem_of_getElem? (i := 1069) (by decide +kernel)⟩
theorem lw_p58 : lw_okq (⟨"ThingsThrownModel", "chanceOf", "(III)J"⟩, 17) := ⟨⟨by decide +kernel, by decide +kernel⟩, List.mem_of_getElem? (i := 720) (by decide +kernel), List.mem_of_getElem? (i := 1072) (by decide +kernel), List.mem_of_getElem? (i := 1073) (by decide +kernel)⟩
theorem lw_p59 : lw_okq (⟨"ThingsThrownModel", "tellPart", "(JJ)V"⟩, 17) := ⟨⟨by decide +kernel, by decide +kernel⟩, List.mem_of_getElem? (i := 720) (by decide +kernel), List.mem_of_getElem? (i := 1076) (by decide +kernel), List.mem_of_getElem? (i := 1077) (by decide +kernel)⟩
theorem lw_p60 : lw_okq (⟨"ThingsThrownModel", "doByLot", "(I)V"⟩, 17) := ⟨⟨by decide +kernel, by decide +kernel⟩, List.mem_of_getElem? (i := 720) (by decide +kernel), List.mem_of_getElem? (i := 1091) (by decide +kernel), List.mem_of_getElem? (i := 1092) (by decide +kernel)⟩
theorem lw_p61 : lw_okq (⟨"ThingsThrownModel", "throwsMade", "()I"⟩, 17) := ⟨⟨by decide +kernel, by decide +kernel⟩, List.mem_of_getElem? (i := 720) (by decide +kernel), List.mem_of_getElem? (i := 1111) (by decide +kernel), List.mem_of_getElem? (i := 1112) (by decide +kernel)⟩
theorem lw_p62 : lw_okq (⟨"ThingsThrownModel", "ofKinds", "(II)I"⟩, 17) := ⟨⟨by decide +kernel, by decide +kernel⟩, List.mem_of_getElem? (i := 720) (by decide +kernel), List.mem_of_getElem? (i := 1115) (by decide +kernel), List.mem_of_getElem? (i := 1116) (by decide +kernel)⟩
def lw_privs_4 : List (MethodName × Nat) := [(⟨"ThingsThrownModel", "canThrow", "(II)Z"⟩, 17), (⟨"ThingsThrownModel", "comesTo", "(I)Z"⟩, 17), (⟨"ThingsThrownModel", "wrongPairs", "(II)I"⟩, 17), (⟨"ThingsThrownModel", "kindsBy", "(I)I"⟩, 17), (⟨"ThingsThrownModel", "worthOf", "(III)I"⟩, 17), (⟨"ThingsThrownModel", "sumAt", "(I)I"⟩, 17), (⟨"ThingsThrownModel", "bestOf", "(II)I"⟩, 17), (⟨"ThingsThrownModel", "chances", "(IIZ)I"⟩, 17), (⟨"ThingsThrownModel", "wrongChance", "(II)I"⟩, 17), (⟨"ThingsThrownModel", "madeWith", "(II)I"⟩, 17), (⟨"ThingsThrownModel", "chanceOf", "(III)J"⟩, 17), (⟨"ThingsThrownModel", "tellPart", "(JJ)V"⟩, 17), (⟨"ThingsThrownModel", "doByLot", "(I)V"⟩, 17), (⟨"ThingsThrownModel", "throwsMade", "()I"⟩, 17), (⟨"ThingsThrownModel", "ofKinds", "(II)I"⟩, 17)]
theorem lw_r4 : ∀ q ∈ lw_privs_4, lw_okq q := List.forall_mem_cons.mpr ⟨lw_p48, List.forall_mem_cons.mpr ⟨lw_p49, List.forall_mem_cons.mpr ⟨lw_p50, List.forall_mem_cons.mpr ⟨lw_p51, List.forall_mem_cons.mpr ⟨lw_p52, List.forall_mem_cons.mpr ⟨lw_p53, List.forall_mem_cons.mpr ⟨lw_p54, List.forall_mem_cons.mpr ⟨lw_p55, List.forall_mem_cons.mpr ⟨lw_p56, List.forall_mem_cons.mpr ⟨lw_p57, List.forall_mem_cons.mpr ⟨lw_p58, List.forall_mem_cons.mpr ⟨lw_p59, List.forall_mem_cons.mpr ⟨lw_p60, List.forall_mem_cons.mpr ⟨lw_p61, List.forall_mem_cons.mpr ⟨lw_p62, fun _ h => absurd h List.not_mem_nil⟩⟩⟩⟩⟩⟩⟩⟩⟩⟩⟩⟩⟩⟩⟩
def lw_privs : List (MethodName × Nat) := lw_privs_1 ++ (lw_privs_2 ++ (lw_privs_3 ++ (lw_privs_4)))
def lw_tbl : List Cond := k2_sels lw_privs ++ tables_1
theorem lw_privs_ok : ∀ q ∈ lw_privs, lw_okq q := by
  show ∀ q ∈ lw_privs_1 ++ (lw_privs_2 ++ (lw_privs_3 ++ (lw_privs_4))), lw_okq q
  exact List.forall_mem_append.mpr ⟨lw_r1, List.forall_mem_append.mpr ⟨lw_r2, List.forall_mem_append.mpr ⟨lw_r3, lw_r4⟩⟩⟩
-- ===== end of PART A; then your names; then what follows =====
/-! THE CLAIM OUT OF ONE WALK OF THE LAW'S BODY. Your part is whole_start (and what it stands on); all else here is the same for every law, but numbers. -/
def R_law : String := "ThingsThrownLaw"
def lw_P (b : Addr) (xs : List Int32) (args : Array Value) (s : State) : Prop := args = #[.ref b] ∧ s.IntsAt b xs ∧ xs.length ≤ 3072 ∧ (Jvm.Cond.and given_1 narrow_1).before args s = true
def lw_Q (_ : Array Value) (s : State) (o : Outcome) (t : State) : Prop := o = .returned (some (.int 1)) ∧ Framed s o t [] 600000 7302250
def lw_Z (below : List Frame) (a : Array Value) (s : State) : State → Prop := fun t => ∃ o, t.status = .running ∧ Ended t below o ∧ lw_Q a s o t
/-- the law's own end, with 1 on the stack, nothing written that was there before, its room as the claim has it -/
theorem lw_ret {p : Program} {l : Launch} {e : Env} {s : State} {m : MethodId} {below : List Frame} {meth : Method} {c : Code} {b : Nat} (hx : p.tables.exec = Jvm.exec) (hb : c.code = code) (hr : meth.sig.returnType = ret) (hlocks : meth.locks = false) {pc : Nat} {H : Heap} {ls : Array Slot} (hdg : decode code pc = .ok (.ireturn, 1)) : W p l e room_1 s m #[Value.ref b] below meth c H [] 600000 7302250 (lw_Z below #[Value.ref b] s) (F0 m pc ls [.int 1]) := by
  intro T hT X
  obtain ⟨fs, hret, hrun, hended, hW, hframe⟩ := X.leave (v := some (.int 1)) (hlocks := hlocks) (fun h => by rw [hr] at h; cases h)
  have hmeth' : T.vm.method? m = some meth := X.method'
  refine ⟨T.setFrames fs, ?_, .returned (some (.int 1)), hrun, hended, rfl, ⟨_, rfl⟩, hW, hframe⟩
  jvm_step X.here [X.here.top, hx, hb, hdg, hmeth', hr, ret, narrow_b1]
  (try refine ⟨rfl, ?_⟩); (try refine ⟨rfl, ?_⟩)
  first | (intro acts; rw [hret _ acts rfl rfl rfl]) | rw [hret _ _ rfl rfl rfl]
  exact Steps.refl _
/-- what holds at the law's entry: the machine, the code, the tables' words (any of lw_tbl by 'hts w (by decide +kernel)'), the script of L ints xs at the cell b, what the Statement gives of the start (any of its parts by flat_of_before) -/
def lw_At (p : Program) (s : State) (m : MethodId) (meth : Method) (c : Code) (b L : Nat) (xs : Nat → Int32) : Prop :=
  p.tables.exec = Jvm.exec ∧ c.code = code ∧ meth.sig.returnType = ret ∧ c.maxLocals = 4 ∧ s.vm.findClass R_law = some m.cls ∧ (∀ w ∈ lw_tbl, w.before #[Value.ref b] s = true) ∧ va_X b L xs s s.heap ∧ b < s.heap.size ∧ meth.locks = false ∧ (Jvm.Cond.and given_1 narrow_1).before #[Value.ref b] s = true
end
section
/-! ===== names, by program (wip/whole/gen.py) out of the Statement ===== -/
def am_T0 : u_T := fun k => match k with
  | 0 => ("ThingsThrown", "rows", "[LThingsThrown$Sheet;", true)
  | 1 => ("ThingsThrown", "texts", "[LThingsThrown$Sheet;", true)
  | 2 => ("ThingsThrown", "telling", "LThingsThrown$Telling;", true)
  | 3 => ("ThingsThrown", "troupe", "LThingsThrown$Troupe;", true)
  | 4 => ("ThingsThrown", "evening", "LThingsThrown$Evening;", true)
  | 5 => ("ThingsThrown", "kept", "[LThingsThrown$Evening;", true)
  | 6 => ("ThingsThrown", "outlook", "LThingsThrown$Outlook;", true)
  | 7 => ("ThingsThrown", "chances", "LThingsThrown$Chances;", true)
  | 8 => ("ThingsThrown", "findingsMade", "[I", true)
  | 9 => ("ThingsThrown", "latestFinding", "I", false)
  | 10 => ("ThingsThrown", "askedLast", "I", false)
  | 11 => ("ThingsThrown", "upperLast", "J", false)
  | _ => ("ThingsThrown", "lowerLast", "J", false)
def am_Y0 : Nat → FieldType := fun k => match k with
  | 0 => .array (.object "ThingsThrown$Sheet")
  | 1 => .array (.object "ThingsThrown$Sheet")
  | 2 => .object "ThingsThrown$Telling"
  | 3 => .object "ThingsThrown$Troupe"
  | 4 => .object "ThingsThrown$Evening"
  | 5 => .array (.object "ThingsThrown$Evening")
  | 6 => .object "ThingsThrown$Outlook"
  | 7 => .object "ThingsThrown$Chances"
  | 8 => .array .int
  | 9 => .int
  | 10 => .int
  | 11 => .long
  | _ => .long
def am_T1 : u_T := fun k => match k with
  | _ => ("ThingsThrown$Chances", "troupe", "LThingsThrown$Troupe;", true)
def am_Y1 : Nat → FieldType := fun k => match k with
  | _ => .object "ThingsThrown$Troupe"
def am_T2 : u_T := fun k => match k with
  | 0 => ("ThingsThrown$Evening", "dues", "I", false)
  | 1 => ("ThingsThrown$Evening", "beat", "I", false)
  | 2 => ("ThingsThrown$Evening", "deeds", "I", false)
  | 3 => ("ThingsThrown$Evening", "timesThrown", "[I", true)
  | 4 => ("ThingsThrown$Evening", "duesAhead", "[I", true)
  | 5 => ("ThingsThrown$Evening", "thingThrown", "[I", true)
  | _ => ("ThingsThrown$Evening", "beatsTaken", "[I", true)
def am_Y2 : Nat → FieldType := fun k => match k with
  | 0 => .int
  | 1 => .int
  | 2 => .int
  | 3 => .array .int
  | 4 => .array .int
  | 5 => .array .int
  | _ => .array .int
def am_T3 : u_T := fun k => match k with
  | 0 => ("ThingsThrown$Outlook", "troupe", "LThingsThrown$Troupe;", true)
  | 1 => ("ThingsThrown$Outlook", "duesThen", "I", false)
  | 2 => ("ThingsThrown$Outlook", "path", "[I", true)
  | _ => ("ThingsThrown$Outlook", "firstHeights", "I", false)
def am_Y3 : Nat → FieldType := fun k => match k with
  | 0 => .object "ThingsThrown$Troupe"
  | 1 => .int
  | 2 => .array .int
  | _ => .int
def am_T4 : u_T := fun k => match k with
  | 0 => ("ThingsThrown$Sheet", "cells", "[I", true)
  | _ => ("ThingsThrown$Sheet", "size", "I", false)
def am_Y4 : Nat → FieldType := fun k => match k with
  | 0 => .array .int
  | _ => .int
def am_T5 : u_T := fun k => match k with
  | 0 => ("ThingsThrown$Telling", "troupe", "LThingsThrown$Troupe;", true)
  | _ => ("ThingsThrown$Telling", "dues", "I", false)
def am_Y5 : Nat → FieldType := fun k => match k with
  | 0 => .object "ThingsThrown$Troupe"
  | _ => .int
def am_T6 : u_T := fun k => match k with
  | 0 => ("ThingsThrown$Troupe", "size", "I", false)
  | _ => ("ThingsThrown$Troupe", "kind", "[I", true)
def am_Y6 : Nat → FieldType := fun k => match k with
  | 0 => .int
  | _ => .array .int
def am_T7 : u_T := fun k => match k with
  | 0 => ("ThingsThrownModel", "w", "[I", true)
  | 1 => ("ThingsThrownModel", "kind", "[I", true)
  | 2 => ("ThingsThrownModel", "things", "I", false)
  | 3 => ("ThingsThrownModel", "keptDeeds", "[I", true)
  | 4 => ("ThingsThrownModel", "rows", "[I", true)
  | 5 => ("ThingsThrownModel", "sizes", "[I", true)
  | 6 => ("ThingsThrownModel", "texts", "[B", true)
  | 7 => ("ThingsThrownModel", "lengths", "[I", true)
  | 8 => ("ThingsThrownModel", "asked", "I", false)
  | 9 => ("ThingsThrownModel", "upper", "J", false)
  | 10 => ("ThingsThrownModel", "lower", "J", false)
  | 11 => ("ThingsThrownModel", "finding", "I", false)
  | 12 => ("ThingsThrownModel", "findings", "[I", true)
  | 13 => ("ThingsThrownModel", "readKind", "[I", true)
  | 14 => ("ThingsThrownModel", "readDue", "[I", true)
  | 15 => ("ThingsThrownModel", "readMany", "I", false)
  | _ => ("ThingsThrownModel", "worth", "[I", true)
def am_Y7 : Nat → FieldType := fun k => match k with
  | 0 => .array .int
  | 1 => .array .int
  | 2 => .int
  | 3 => .array .int
  | 4 => .array .int
  | 5 => .array .int
  | 6 => .array .byte
  | 7 => .array .int
  | 8 => .int
  | 9 => .long
  | 10 => .long
  | 11 => .int
  | 12 => .array .int
  | 13 => .array .int
  | 14 => .array .int
  | 15 => .int
  | _ => .array .int
abbrev am_cl : List vw_C := [("ThingsThrown", am_T0, 13), ("ThingsThrown$Chances", am_T1, 1), ("ThingsThrown$Evening", am_T2, 7), ("ThingsThrown$Outlook", am_T3, 4), ("ThingsThrown$Sheet", am_T4, 2), ("ThingsThrown$Telling", am_T5, 2), ("ThingsThrown$Troupe", am_T6, 2), ("ThingsThrownModel", am_T7, 17)]
def am_Y : Nat → Nat → FieldType := fun c => match c with
  | 0 => am_Y0
  | 1 => am_Y1
  | 2 => am_Y2
  | 3 => am_Y3
  | 4 => am_Y4
  | 5 => am_Y5
  | 6 => am_Y6
  | _ => am_Y7
def am_F : Nat → Nat → Bool := fun c k => match c with
  | 0 => (am_T0 k).2.2.2
  | 1 => (am_T1 k).2.2.2
  | 2 => (am_T2 k).2.2.2
  | 3 => (am_T3 k).2.2.2
  | 4 => (am_T4 k).2.2.2
  | 5 => (am_T5 k).2.2.2
  | 6 => (am_T6 k).2.2.2
  | _ => (am_T7 k).2.2.2
def am_dv : Nat → List Value := fun c => match c with
  | 0 => [.null, .null, .null, .null, .null, .null, .null, .null, .null, .int 0, .int 0, .long 0, .long 0]
  | 1 => [.null]
  | 2 => [.int 0, .int 0, .int 0, .null, .null, .null, .null]
  | 3 => [.null, .int 0, .null, .int 0]
  | 4 => [.null, .int 0]
  | 5 => [.null, .int 0]
  | 6 => [.int 0, .null]
  | _ => [.null, .null, .int 0, .null, .null, .null, .null, .null, .int 0, .long 0, .long 0, .int 0, .null, .null, .null, .int 0, .null]
def am_own : Nat → String := fun c => match c with
  | 0 => "ThingsThrown"
  | 1 => "ThingsThrown$Chances"
  | 2 => "ThingsThrown$Evening"
  | 3 => "ThingsThrown$Outlook"
  | 4 => "ThingsThrown$Sheet"
  | 5 => "ThingsThrown$Telling"
  | 6 => "ThingsThrown$Troupe"
  | 7 => "ThingsThrownModel"
  | 8 => "ThingsThrown$Kinds"
  | 9 => "java/lang/Integer"
  | _ => "ThingsThrownLaw"
abbrev Am_M : Type := MethodName × ByteArray × Nat × Option FieldType × Nat
/-- the methods: name, bytes, locals, answer, the number of their class -/
def am_ml0 : List Am_M := [(⟨"ThingsThrown", "<init>", "()V"⟩, prog_1_method_1_code, 2, none, 0),
  (⟨"ThingsThrown$Telling", "<init>", "()V"⟩, prog_7_method_1_code, 1, none, 5),
  (⟨"ThingsThrown$Troupe", "<init>", "()V"⟩, prog_8_method_1_code, 1, none, 6),
  (⟨"ThingsThrown$Evening", "<init>", "()V"⟩, prog_3_method_1_code, 1, none, 2),
  (⟨"ThingsThrown$Outlook", "<init>", "(LThingsThrown$Troupe;)V"⟩, prog_5_method_1_code, 2, none, 3),
  (⟨"ThingsThrown$Chances", "<init>", "(LThingsThrown$Troupe;)V"⟩, prog_2_method_1_code, 2, none, 1),
  (⟨"ThingsThrown$Sheet", "<init>", "([I)V"⟩, prog_6_method_1_code, 2, none, 4),
  (⟨"ThingsThrown$Evening", "forget", "()V"⟩, prog_3_method_3_code, 1, none, 2),
  (⟨"ThingsThrown", "row", "(II)I"⟩, prog_1_method_2_code, 3, some .int, 0),
  (⟨"ThingsThrown", "isRow", "(I)Z"⟩, prog_1_method_41_code, 1, some .boolean, 0),
  (⟨"ThingsThrown", "found", "(I)I"⟩, prog_1_method_47_code, 2, some .int, 0),
  (⟨"ThingsThrown$Sheet", "begin", "(II)V"⟩, prog_6_method_2_code, 4, none, 4),
  (⟨"ThingsThrown", "lay", "(III)I"⟩, prog_1_method_3_code, 6, some .int, 0),
  (⟨"ThingsThrown", "refusalOfPlace", "(II)I"⟩, prog_1_method_49_code, 4, some .int, 0),
  (⟨"ThingsThrown", "refusalOfRow", "(I)I"⟩, prog_1_method_48_code, 2, some .int, 0),
  (⟨"ThingsThrown$Sheet", "isMissing", "()Z"⟩, prog_6_method_3_code, 1, some .boolean, 4),
  (⟨"ThingsThrown$Sheet", "has", "(I)Z"⟩, prog_6_method_4_code, 2, some .boolean, 4),
  (⟨"ThingsThrown", "tell", "(I)I"⟩, prog_1_method_54_code, 2, some .int, 0),
  (⟨"ThingsThrown", "at", "(II)I"⟩, prog_1_method_4_code, 4, some .int, 0),
  (⟨"ThingsThrown", "tear", "(I)I"⟩, prog_1_method_5_code, 3, some .int, 0),
  (⟨"ThingsThrown", "copy", "(IIIII)I"⟩, prog_1_method_6_code, 6, some .int, 0),
  (⟨"ThingsThrown$Sheet", "hasPart", "(II)Z"⟩, prog_6_method_5_code, 3, some .boolean, 4),
  (⟨"ThingsThrown", "mean", "(I)I"⟩, prog_1_method_7_code, 7, some .int, 0),
  (⟨"ThingsThrown", "text", "(II)I"⟩, prog_1_method_8_code, 3, some .int, 0),
  (⟨"ThingsThrown", "isText", "(I)Z"⟩, prog_1_method_42_code, 1, some .boolean, 0),
  (⟨"ThingsThrown", "put", "(III)I"⟩, prog_1_method_9_code, 6, some .int, 0),
  (⟨"ThingsThrown", "refusalOfText", "(I)I"⟩, prog_1_method_50_code, 2, some .int, 0),
  (⟨"ThingsThrown", "fault", "(I)I"⟩, prog_1_method_10_code, 3, some .int, 0),
  (⟨"ThingsThrown$Telling", "read", "(LThingsThrown$Sheet;)I"⟩, prog_7_method_2_code, 4, some .int, 5),
  (⟨"ThingsThrown$Troupe", "begin", "()V"⟩, prog_8_method_5_code, 1, none, 6)]
def am_ml1 : List Am_M := [(⟨"ThingsThrown$Kinds", "byLetter", "(I)I"⟩, prog_4_method_2_code, 2, some .int, 8),
  (⟨"ThingsThrown$Telling", "isFreeFigure", "(I)Z"⟩, prog_7_method_3_code, 3, some .boolean, 5),
  (⟨"ThingsThrown$Troupe", "sky", "(I)I"⟩, prog_8_method_8_code, 4, some .int, 6),
  (⟨"ThingsThrown$Troupe", "due", "(II)I"⟩, prog_8_method_2_code, 2, some .int, 6),
  (⟨"ThingsThrown$Troupe", "with", "(III)I"⟩, prog_8_method_3_code, 3, some .int, 6),
  (⟨"ThingsThrown$Troupe", "add", "(I)V"⟩, prog_8_method_6_code, 2, none, 6),
  (⟨"ThingsThrown", "things", "(I)I"⟩, prog_1_method_11_code, 4, some .int, 0),
  (⟨"ThingsThrown$Troupe", "takeFrom", "(LThingsThrown$Troupe;)V"⟩, prog_8_method_7_code, 2, none, 6),
  (⟨"ThingsThrown$Evening", "begin", "(I)V"⟩, prog_3_method_2_code, 3, none, 2),
  (⟨"ThingsThrown", "thing", "(II)I"⟩, prog_1_method_12_code, 3, some .int, 0),
  (⟨"ThingsThrown", "isThing", "(I)Z"⟩, prog_1_method_46_code, 2, some .boolean, 0),
  (⟨"ThingsThrown", "ofThing", "(II)I"⟩, prog_1_method_57_code, 3, some .int, 0),
  (⟨"ThingsThrown$Kinds", "heightsOf", "(I)I"⟩, prog_4_method_5_code, 1, some .int, 8),
  (⟨"ThingsThrown", "mark", "(II)I"⟩, prog_1_method_13_code, 4, some .int, 0),
  (⟨"ThingsThrown$Kinds", "isOf", "(II)Z"⟩, prog_4_method_3_code, 2, some .boolean, 8),
  (⟨"ThingsThrown$Kinds", "heightsLater", "(I)I"⟩, prog_4_method_6_code, 3, some .int, 8),
  (⟨"ThingsThrown$Kinds", "flight", "(II)I"⟩, prog_4_method_4_code, 2, some .int, 8),
  (⟨"ThingsThrown$Kinds", "heightsSooner", "(I)I"⟩, prog_4_method_7_code, 3, some .int, 8),
  (⟨"ThingsThrown$Troupe", "torchesAhead", "(II)I"⟩, prog_8_method_12_code, 5, some .int, 6),
  (⟨"ThingsThrown$Troupe", "thingsBehind", "(II)I"⟩, prog_8_method_13_code, 5, some .int, 6),
  (⟨"ThingsThrown", "toss", "(I)I"⟩, prog_1_method_14_code, 2, some .int, 0),
  (⟨"ThingsThrown", "isHeight", "(I)Z"⟩, prog_1_method_43_code, 1, some .boolean, 0),
  (⟨"ThingsThrown$Troupe", "mayGo", "(II)Z"⟩, prog_8_method_17_code, 4, some .boolean, 6),
  (⟨"ThingsThrown$Troupe", "dueNow", "(I)I"⟩, prog_8_method_9_code, 3, some .int, 6),
  (⟨"ThingsThrown$Troupe", "isFree", "(II)Z"⟩, prog_8_method_19_code, 2, some .boolean, 6),
  (⟨"ThingsThrown$Evening", "isFull", "()Z"⟩, prog_3_method_5_code, 1, some .boolean, 2),
  (⟨"ThingsThrown", "enterThrow", "(I)V"⟩, prog_1_method_61_code, 3, none, 0),
  (⟨"ThingsThrown$Troupe", "thrown", "(II)I"⟩, prog_8_method_20_code, 4, some .int, 6),
  (⟨"ThingsThrown$Troupe", "later", "(II)I"⟩, prog_8_method_15_code, 3, some .int, 6),
  (⟨"ThingsThrown$Evening", "enter", "(III)V"⟩, prog_3_method_6_code, 4, none, 2)]
def am_ml2 : List Am_M := [(⟨"ThingsThrown$Evening", "isForgotten", "()Z"⟩, prog_3_method_4_code, 1, some .boolean, 2),
  (⟨"ThingsThrown", "skyNow", "()I"⟩, prog_1_method_58_code, 1, some .int, 0),
  (⟨"ThingsThrown", "rest", "()I"⟩, prog_1_method_15_code, 1, some .int, 0),
  (⟨"ThingsThrown", "enterRest", "()V"⟩, prog_1_method_62_code, 1, none, 0),
  (⟨"ThingsThrown", "exchange", "(II)I"⟩, prog_1_method_16_code, 3, some .int, 0),
  (⟨"ThingsThrown", "enterExchange", "(II)V"⟩, prog_1_method_63_code, 3, none, 0),
  (⟨"ThingsThrown$Troupe", "exchanged", "(III)I"⟩, prog_8_method_4_code, 3, some .int, 6),
  (⟨"ThingsThrown", "undo", "(I)I"⟩, prog_1_method_17_code, 3, some .int, 0),
  (⟨"ThingsThrown$Evening", "takeBack", "(I)V"⟩, prog_3_method_7_code, 3, none, 2),
  (⟨"ThingsThrown", "keep", "(I)I"⟩, prog_1_method_18_code, 2, some .int, 0),
  (⟨"ThingsThrown", "isPlaceKept", "(I)Z"⟩, prog_1_method_45_code, 1, some .boolean, 0),
  (⟨"ThingsThrown$Evening", "takeFrom", "(LThingsThrown$Evening;)V"⟩, prog_3_method_9_code, 2, none, 2),
  (⟨"ThingsThrown", "on", "(I)I"⟩, prog_1_method_19_code, 2, some .int, 0),
  (⟨"ThingsThrown", "lands", "(II)I"⟩, prog_1_method_20_code, 3, some .int, 0),
  (⟨"ThingsThrown", "may", "()I"⟩, prog_1_method_21_code, 2, some .int, 0),
  (⟨"ThingsThrown$Troupe", "heightsNow", "(I)I"⟩, prog_8_method_18_code, 6, some .int, 6),
  (⟨"ThingsThrown", "run", "(I)I"⟩, prog_1_method_22_code, 4, some .int, 0),
  (⟨"ThingsThrown", "refusalOfThrows", "(III)I"⟩, prog_1_method_51_code, 7, some .int, 0),
  (⟨"ThingsThrown$Outlook", "throwsMade", "(ILThingsThrown$Sheet;)I"⟩, prog_5_method_2_code, 4, some .int, 3),
  (⟨"ThingsThrown$Troupe", "rested", "(I)I"⟩, prog_8_method_16_code, 2, some .int, 6),
  (⟨"ThingsThrown$Troupe", "restsAhead", "(I)I"⟩, prog_8_method_14_code, 4, some .int, 6),
  (⟨"ThingsThrown", "rounds", "(I)I"⟩, prog_1_method_23_code, 3, some .int, 0),
  (⟨"ThingsThrown$Outlook", "roundsBack", "(ILThingsThrown$Sheet;)I"⟩, prog_5_method_3_code, 5, some .int, 3),
  (⟨"ThingsThrown$Outlook", "comesToDues", "(II)Z"⟩, prog_5_method_4_code, 5, some .boolean, 3),
  (⟨"ThingsThrown", "fewest", "(II)I"⟩, prog_1_method_24_code, 4, some .int, 0),
  (⟨"ThingsThrown", "isSky", "(I)Z"⟩, prog_1_method_44_code, 1, some .boolean, 0),
  (⟨"ThingsThrown$Outlook", "fewestTo", "(II)I"⟩, prog_5_method_6_code, 4, some .int, 3),
  (⟨"java/lang/Integer", "bitCount", "(I)I"⟩, prog_11_method_49_code, 1, some .int, 9),
  (⟨"ThingsThrown$Outlook", "leadsTo", "(IIII)Z"⟩, prog_5_method_7_code, 8, some .boolean, 3),
  (⟨"ThingsThrown$Outlook", "comesToSky", "(II)Z"⟩, prog_5_method_5_code, 6, some .boolean, 3)]
def am_ml3 : List Am_M := [(⟨"ThingsThrown", "ways", "(I)I"⟩, prog_1_method_25_code, 2, some .int, 0),
  (⟨"ThingsThrown$Outlook", "waysBack", "(II)J"⟩, prog_5_method_8_code, 11, some .long, 3),
  (⟨"ThingsThrown$Outlook", "waysTo", "(III)J"⟩, prog_5_method_9_code, 9, some .long, 3),
  (⟨"ThingsThrown", "tellRatio", "(JJ)I"⟩, prog_1_method_55_code, 7, some .int, 0),
  (⟨"ThingsThrown", "sharedDivisor", "(JJ)J"⟩, prog_1_method_56_code, 11, some .long, 0),
  (⟨"ThingsThrown", "height", "(I)I"⟩, prog_1_method_26_code, 2, some .int, 0),
  (⟨"ThingsThrown$Outlook", "heightsTo", "(II)I"⟩, prog_5_method_10_code, 6, some .int, 3),
  (⟨"ThingsThrown", "kinds", "(II)I"⟩, prog_1_method_27_code, 4, some .int, 0),
  (⟨"ThingsThrown", "refusalOfPairs", "(II)I"⟩, prog_1_method_53_code, 7, some .int, 0),
  (⟨"ThingsThrown$Kinds", "fitting", "(LThingsThrown$Sheet;)I"⟩, prog_4_method_8_code, 3, some .int, 8),
  (⟨"ThingsThrown$Kinds", "fits", "(ILThingsThrown$Sheet;)Z"⟩, prog_4_method_9_code, 3, some .boolean, 8),
  (⟨"ThingsThrown", "next", "(II)I"⟩, prog_1_method_28_code, 6, some .int, 0),
  (⟨"ThingsThrown$Kinds", "heightToTry", "(I)I"⟩, prog_4_method_10_code, 3, some .int, 8),
  (⟨"ThingsThrown$Kinds", "greatestPart", "(II)I"⟩, prog_4_method_11_code, 4, some .int, 8),
  (⟨"ThingsThrown$Kinds", "alike", "(III)I"⟩, prog_4_method_12_code, 5, some .int, 8),
  (⟨"ThingsThrown", "duel", "(I)I"⟩, prog_1_method_29_code, 2, some .int, 0),
  (⟨"ThingsThrown$Outlook", "bestByTurns", "(II)I"⟩, prog_5_method_11_code, 3, some .int, 3),
  (⟨"ThingsThrown$Outlook", "bestFrom", "(II)I"⟩, prog_5_method_12_code, 9, some .int, 3),
  (⟨"ThingsThrown$Troupe", "dueTogether", "(I)I"⟩, prog_8_method_10_code, 4, some .int, 6),
  (⟨"ThingsThrown", "odds", "(II)I"⟩, prog_1_method_30_code, 6, some .int, 0),
  (⟨"ThingsThrown", "refusalOfChances", "(II)I"⟩, prog_1_method_52_code, 3, some .int, 0),
  (⟨"ThingsThrown$Chances", "weightOfAll", "(ILThingsThrown$Sheet;I)J"⟩, prog_2_method_3_code, 4, some .long, 1),
  (⟨"ThingsThrown$Chances", "weightFrom", "(ILThingsThrown$Sheet;IIZ)J"⟩, prog_2_method_5_code, 13, some .long, 1),
  (⟨"ThingsThrown$Chances", "weight", "(I)J"⟩, prog_2_method_2_code, 4, some .long, 1),
  (⟨"ThingsThrown", "mid", "(II)I"⟩, prog_1_method_31_code, 6, some .int, 0),
  (⟨"ThingsThrown$Chances", "weightOfMade", "(ILThingsThrown$Sheet;I)J"⟩, prog_2_method_4_code, 4, some .long, 1),
  (⟨"ThingsThrown", "lots", "(II)I"⟩, prog_1_method_32_code, 6, some .int, 0),
  (⟨"ThingsThrown", "enterByLot", "(I)V"⟩, prog_1_method_64_code, 3, none, 0),
  (⟨"ThingsThrown", "enterThrowFrom", "(I)V"⟩, prog_1_method_65_code, 4, none, 0),
  (⟨"ThingsThrown", "asked", "()I"⟩, prog_1_method_33_code, 1, some .int, 0)]
def am_ml4 : List Am_M := [(⟨"ThingsThrown", "upper", "()J"⟩, prog_1_method_34_code, 1, some .long, 0),
  (⟨"ThingsThrown", "lower", "()J"⟩, prog_1_method_35_code, 1, some .long, 0),
  (⟨"ThingsThrown", "count", "(I)I"⟩, prog_1_method_36_code, 2, some .int, 0),
  (⟨"ThingsThrown$Evening", "throwsMade", "()I"⟩, prog_3_method_8_code, 3, some .int, 2),
  (⟨"ThingsThrown$Troupe", "howManyOf", "(I)I"⟩, prog_8_method_11_code, 4, some .int, 6),
  (⟨"ThingsThrown", "sheetsThere", "([LThingsThrown$Sheet;)I"⟩, prog_1_method_59_code, 3, some .int, 0),
  (⟨"ThingsThrown", "skiesKept", "()I"⟩, prog_1_method_60_code, 3, some .int, 0),
  (⟨"ThingsThrown", "finding", "()I"⟩, prog_1_method_37_code, 1, some .int, 0),
  (⟨"ThingsThrown", "findings", "(I)I"⟩, prog_1_method_38_code, 2, some .int, 0),
  (⟨"ThingsThrown", "digest", "()J"⟩, prog_1_method_39_code, 5, some .long, 0),
  (⟨"ThingsThrown", "digestOfSheets", "(J[LThingsThrown$Sheet;)J"⟩, prog_1_method_40_code, 7, some .long, 0),
  (⟨"ThingsThrownModel", "<init>", "()V"⟩, prog_10_method_1_code, 2, none, 7),
  (⟨"ThingsThrownModel", "row", "(II)I"⟩, prog_10_method_9_code, 4, some .int, 7),
  (⟨"ThingsThrownModel", "isRow", "(I)Z"⟩, prog_10_method_8_code, 1, some .boolean, 7),
  (⟨"ThingsThrownModel", "in", "(III)Z"⟩, prog_10_method_3_code, 3, some .boolean, 7),
  (⟨"ThingsThrownModel", "found", "(I)I"⟩, prog_10_method_5_code, 2, some .int, 7),
  (⟨"ThingsThrownModel", "lay", "(III)I"⟩, prog_10_method_11_code, 6, some .int, 7),
  (⟨"ThingsThrownModel", "wrongPlace", "(II)I"⟩, prog_10_method_10_code, 3, some .int, 7),
  (⟨"ThingsThrownModel", "tell", "(I)I"⟩, prog_10_method_6_code, 2, some .int, 7),
  (⟨"ThingsThrownModel", "at", "(II)I"⟩, prog_10_method_12_code, 4, some .int, 7),
  (⟨"ThingsThrownModel", "tear", "(I)I"⟩, prog_10_method_13_code, 2, some .int, 7),
  (⟨"ThingsThrownModel", "copy", "(IIIII)I"⟩, prog_10_method_15_code, 9, some .int, 7),
  (⟨"ThingsThrownModel", "isPart", "(III)Z"⟩, prog_10_method_14_code, 4, some .boolean, 7),
  (⟨"ThingsThrownModel", "mean", "(I)I"⟩, prog_10_method_16_code, 5, some .int, 7),
  (⟨"ThingsThrownModel", "text", "(II)I"⟩, prog_10_method_18_code, 4, some .int, 7),
  (⟨"ThingsThrownModel", "isText", "(I)Z"⟩, prog_10_method_17_code, 1, some .boolean, 7),
  (⟨"ThingsThrownModel", "put", "(III)I"⟩, prog_10_method_19_code, 5, some .int, 7),
  (⟨"ThingsThrownModel", "fault", "(I)I"⟩, prog_10_method_24_code, 2, some .int, 7),
  (⟨"ThingsThrownModel", "readText", "(I)I"⟩, prog_10_method_23_code, 5, some .int, 7),
  (⟨"ThingsThrownModel", "byteAt", "(II)I"⟩, prog_10_method_21_code, 3, some .int, 7)]
def am_ml5 : List Am_M := [(⟨"ThingsThrownModel", "kindOf", "(I)I"⟩, prog_10_method_20_code, 1, some .int, 7),
  (⟨"ThingsThrownModel", "isDueRead", "(I)Z"⟩, prog_10_method_22_code, 4, some .boolean, 7),
  (⟨"ThingsThrownModel", "things", "(I)I"⟩, prog_10_method_25_code, 3, some .int, 7),
  (⟨"ThingsThrownModel", "thing", "(II)I"⟩, prog_10_method_30_code, 3, some .int, 7),
  (⟨"ThingsThrownModel", "isThing", "(I)Z"⟩, prog_10_method_26_code, 2, some .boolean, 7),
  (⟨"ThingsThrownModel", "heightsOf", "(I)I"⟩, prog_10_method_29_code, 3, some .int, 7),
  (⟨"ThingsThrownModel", "landing", "(II)I"⟩, prog_10_method_28_code, 2, some .int, 7),
  (⟨"ThingsThrownModel", "mark", "(II)I"⟩, prog_10_method_34_code, 4, some .int, 7),
  (⟨"ThingsThrownModel", "unlikeBall", "(II)I"⟩, prog_10_method_31_code, 5, some .int, 7),
  (⟨"ThingsThrownModel", "torchesAhead", "(I)I"⟩, prog_10_method_32_code, 4, some .int, 7),
  (⟨"ThingsThrownModel", "thingsBehind", "(I)I"⟩, prog_10_method_33_code, 4, some .int, 7),
  (⟨"ThingsThrownModel", "toss", "(I)I"⟩, prog_10_method_45_code, 2, some .int, 7),
  (⟨"ThingsThrownModel", "isHeight", "(I)Z"⟩, prog_10_method_27_code, 1, some .boolean, 7),
  (⟨"ThingsThrownModel", "mayAt", "(II)Z"⟩, prog_10_method_37_code, 5, some .boolean, 7),
  (⟨"ThingsThrownModel", "dueAt", "(I)I"⟩, prog_10_method_36_code, 3, some .int, 7),
  (⟨"ThingsThrownModel", "skyAt", "(I)I"⟩, prog_10_method_35_code, 4, some .int, 7),
  (⟨"ThingsThrownModel", "has", "(II)Z"⟩, prog_10_method_4_code, 2, some .boolean, 7),
  (⟨"ThingsThrownModel", "remember", "()V"⟩, prog_10_method_44_code, 1, none, 7),
  (⟨"ThingsThrownModel", "copyRow", "(III)V"⟩, prog_10_method_7_code, 5, none, 7),
  (⟨"ThingsThrownModel", "tossAt", "(II)V"⟩, prog_10_method_40_code, 4, none, 7),
  (⟨"ThingsThrownModel", "later", "(I)V"⟩, prog_10_method_39_code, 3, none, 7),
  (⟨"ThingsThrownModel", "rest", "()I"⟩, prog_10_method_46_code, 1, some .int, 7),
  (⟨"ThingsThrownModel", "exchange", "(II)I"⟩, prog_10_method_48_code, 3, some .int, 7),
  (⟨"ThingsThrownModel", "swap", "(II)V"⟩, prog_10_method_47_code, 4, none, 7),
  (⟨"ThingsThrownModel", "undo", "(I)I"⟩, prog_10_method_49_code, 3, some .int, 7),
  (⟨"ThingsThrownModel", "keep", "(I)I"⟩, prog_10_method_50_code, 2, some .int, 7),
  (⟨"ThingsThrownModel", "on", "(I)I"⟩, prog_10_method_51_code, 2, some .int, 7),
  (⟨"ThingsThrownModel", "lands", "(II)I"⟩, prog_10_method_52_code, 3, some .int, 7),
  (⟨"ThingsThrownModel", "may", "()I"⟩, prog_10_method_53_code, 1, some .int, 7),
  (⟨"ThingsThrownModel", "heightsAt", "(I)I"⟩, prog_10_method_38_code, 4, some .int, 7)]
def am_ml6 : List Am_M := [(⟨"ThingsThrownModel", "run", "(I)I"⟩, prog_10_method_55_code, 6, some .int, 7),
  (⟨"ThingsThrownModel", "wrongHeights", "(III)I"⟩, prog_10_method_54_code, 5, some .int, 7),
  (⟨"ThingsThrownModel", "beginTry", "()V"⟩, prog_10_method_43_code, 1, none, 7),
  (⟨"ThingsThrownModel", "restsAt", "(I)V"⟩, prog_10_method_41_code, 2, none, 7),
  (⟨"ThingsThrownModel", "rounds", "(I)I"⟩, prog_10_method_57_code, 6, some .int, 7),
  (⟨"ThingsThrownModel", "isAsNow", "()Z"⟩, prog_10_method_56_code, 3, some .boolean, 7),
  (⟨"ThingsThrownModel", "fewest", "(II)I"⟩, prog_10_method_63_code, 6, some .int, 7),
  (⟨"ThingsThrownModel", "isSky", "(I)Z"⟩, prog_10_method_62_code, 1, some .boolean, 7),
  (⟨"ThingsThrownModel", "power", "(II)I"⟩, prog_10_method_58_code, 4, some .int, 7),
  (⟨"ThingsThrownModel", "canThrow", "(II)Z"⟩, prog_10_method_60_code, 5, some .boolean, 7),
  (⟨"ThingsThrownModel", "figure", "(III)I"⟩, prog_10_method_59_code, 3, some .int, 7),
  (⟨"ThingsThrownModel", "comesTo", "(I)Z"⟩, prog_10_method_61_code, 2, some .boolean, 7),
  (⟨"ThingsThrownModel", "ways", "(I)I"⟩, prog_10_method_64_code, 5, some .int, 7),
  (⟨"ThingsThrownModel", "height", "(I)I"⟩, prog_10_method_65_code, 4, some .int, 7),
  (⟨"ThingsThrownModel", "kinds", "(II)I"⟩, prog_10_method_68_code, 4, some .int, 7),
  (⟨"ThingsThrownModel", "wrongPairs", "(II)I"⟩, prog_10_method_66_code, 4, some .int, 7),
  (⟨"ThingsThrownModel", "kindsBy", "(I)I"⟩, prog_10_method_67_code, 6, some .int, 7),
  (⟨"ThingsThrownModel", "next", "(II)I"⟩, prog_10_method_70_code, 9, some .int, 7),
  (⟨"ThingsThrownModel", "greatestPart", "(II)I"⟩, prog_10_method_69_code, 6, some .int, 7),
  (⟨"ThingsThrownModel", "duel", "(I)I"⟩, prog_10_method_74_code, 4, some .int, 7),
  (⟨"ThingsThrownModel", "base", "(I)I"⟩, prog_10_method_71_code, 1, some .int, 7),
  (⟨"ThingsThrownModel", "worthOf", "(III)I"⟩, prog_10_method_73_code, 4, some .int, 7),
  (⟨"ThingsThrownModel", "sumAt", "(I)I"⟩, prog_10_method_42_code, 4, some .int, 7),
  (⟨"ThingsThrownModel", "bestOf", "(II)I"⟩, prog_10_method_72_code, 7, some .int, 7),
  (⟨"ThingsThrownModel", "odds", "(II)I"⟩, prog_10_method_80_code, 3, some .int, 7),
  (⟨"ThingsThrownModel", "chances", "(IIZ)I"⟩, prog_10_method_79_code, 11, some .int, 7),
  (⟨"ThingsThrownModel", "wrongChance", "(II)I"⟩, prog_10_method_75_code, 3, some .int, 7),
  (⟨"ThingsThrownModel", "madeWith", "(II)I"⟩, prog_10_method_76_code, 5, some .int, 7),
  (⟨"ThingsThrownModel", "chanceOf", "(III)J"⟩, prog_10_method_77_code, 7, some .long, 7),
  (⟨"ThingsThrownModel", "tellPart", "(JJ)V"⟩, prog_10_method_78_code, 11, none, 7)]
def am_ml7 : List Am_M := [(⟨"ThingsThrownModel", "mid", "(II)I"⟩, prog_10_method_81_code, 3, some .int, 7),
  (⟨"ThingsThrownModel", "lots", "(II)I"⟩, prog_10_method_83_code, 6, some .int, 7),
  (⟨"ThingsThrownModel", "doByLot", "(I)V"⟩, prog_10_method_82_code, 5, none, 7),
  (⟨"ThingsThrownModel", "asked", "()I"⟩, prog_10_method_84_code, 1, some .int, 7),
  (⟨"ThingsThrownModel", "upper", "()J"⟩, prog_10_method_85_code, 1, some .long, 7),
  (⟨"ThingsThrownModel", "lower", "()J"⟩, prog_10_method_86_code, 1, some .long, 7),
  (⟨"ThingsThrownModel", "count", "(I)I"⟩, prog_10_method_90_code, 2, some .int, 7),
  (⟨"ThingsThrownModel", "throwsMade", "()I"⟩, prog_10_method_87_code, 3, some .int, 7),
  (⟨"ThingsThrownModel", "ofKinds", "(II)I"⟩, prog_10_method_88_code, 5, some .int, 7),
  (⟨"ThingsThrownModel", "thereAre", "([II)I"⟩, prog_10_method_89_code, 4, some .int, 7),
  (⟨"ThingsThrownModel", "finding", "()I"⟩, prog_10_method_91_code, 1, some .int, 7),
  (⟨"ThingsThrownModel", "findings", "(I)I"⟩, prog_10_method_92_code, 2, some .int, 7),
  (⟨"ThingsThrownModel", "digest", "()J"⟩, prog_10_method_93_code, 5, some .long, 7)]
def am_ml : List Am_M := am_ml0 ++ (am_ml1 ++ (am_ml2 ++ (am_ml3 ++ (am_ml4 ++ (am_ml5 ++ (am_ml6 ++ (am_ml7)))))))
def am_m (i : Nat) : Am_M := (am_ml[i]?).getD (⟨"", "", ""⟩, .mk #[], 0, none, 0)
abbrev am_TB : List Cond := lw_tbl.filter goodWord
def am_nest : List Cond := [.methodLinkNest "ThingsThrown" 20 ⟨"ThingsThrown$Telling", "<init>", "()V"⟩ "ThingsThrown", .methodLinkNest "ThingsThrown$Telling" 11 ⟨"ThingsThrown$Troupe", "<init>", "()V"⟩ "ThingsThrown", .methodLinkNest "ThingsThrown" 27 ⟨"ThingsThrown$Troupe", "<init>", "()V"⟩ "ThingsThrown", .methodLinkNest "ThingsThrown" 34 ⟨"ThingsThrown$Evening", "<init>", "()V"⟩ "ThingsThrown"]
end
section
/-! ===== the words that the machine needs, row by row, by program ===== -/
theorem am_in {w : Cond} (h : w ∈ tables_1) (g : goodWord w = true) : w ∈ am_TB := List.mem_filter.mpr ⟨List.mem_append_right _ h, g⟩
theorem am_in1 {w : Cond} {i : Nat} (h : tables_1_1[i]? = some w) (g : goodWord w = true) : w ∈ am_TB := am_in (by unfold tables_1; exact List.mem_append_left _ (List.mem_of_getElem? h)) g
theorem am_in2 {w : Cond} {i : Nat} (h : tables_1_2[i]? = some w) (g : goodWord w = true) : w ∈ am_TB := am_in (by unfold tables_1; exact List.mem_append_right _ (List.mem_append_left _ (List.mem_of_getElem? h))) g
theorem am_in3 {w : Cond} {i : Nat} (h : tables_1_3[i]? = some w) (g : goodWord w = true) : w ∈ am_TB := am_in (by unfold tables_1; exact List.mem_append_right _ (List.mem_append_right _ (List.mem_append_left _ (List.mem_of_getElem? h)))) g
theorem am_in4 {w : Cond} {i : Nat} (h : tables_1_4[i]? = some w) (g : goodWord w = true) : w ∈ am_TB := am_in (by unfold tables_1; exact List.mem_append_right _ (List.mem_append_right _ (List.mem_append_right _ (List.mem_append_left _ (List.mem_of_getElem? h))))) g
theorem am_in5 {w : Cond} {i : Nat} (h : tables_1_5[i]? = some w) (g : goodWord w = true) : w ∈ am_TB := am_in (by unfold tables_1; exact List.mem_append_right _ (List.mem_append_right _ (List.mem_append_right _ (List.mem_append_right _ (List.mem_of_getElem? h))))) g
theorem am_inP1 {q : MethodName × Nat} {i : Nat} (h : lw_privs_1[i]? = some q) : q ∈ lw_privs := by unfold lw_privs; exact List.mem_append_left _ (List.mem_of_getElem? h)
theorem am_inP2 {q : MethodName × Nat} {i : Nat} (h : lw_privs_2[i]? = some q) : q ∈ lw_privs := by unfold lw_privs; exact List.mem_append_right _ (List.mem_append_left _ (List.mem_of_getElem? h))
theorem am_inP3 {q : MethodName × Nat} {i : Nat} (h : lw_privs_3[i]? = some q) : q ∈ lw_privs := by unfold lw_privs; exact List.mem_append_right _ (List.mem_append_right _ (List.mem_append_left _ (List.mem_of_getElem? h)))
theorem am_inP4 {q : MethodName × Nat} {i : Nat} (h : lw_privs_4[i]? = some q) : q ∈ lw_privs := by unfold lw_privs; exact List.mem_append_right _ (List.mem_append_right _ (List.mem_append_right _ (List.mem_of_getElem? h)))
theorem am_inP {q : MethodName × Nat} (h : q ∈ lw_privs) (g : goodWord (Cond.selects q.1.cls q.1 q.1) = true) : Cond.selects q.1.cls q.1 q.1 ∈ am_TB := List.mem_filter.mpr ⟨List.mem_append_left _ (List.mem_map.mpr ⟨q, h, rfl⟩), g⟩
def am_mP (mi : Nat) : Prop := Cond.code (am_m mi).1 (am_m mi).2.1 (am_m mi).2.2.1 (am_m mi).2.2.2.1 ∈ am_TB ∧ Cond.initialized (am_m mi).1.cls ∈ am_TB ∧ ((am_m mi).1.cls ≠ "java/lang/invoke/MethodHandle" ∧ (am_m mi).1.cls ≠ "java/lang/invoke/VarHandle") ∧ (am_m mi).2.2.1 ≤ 20 ∧ plainName (am_m mi).1.cls = true ∧ (am_m mi).1.cls = am_own (am_m mi).2.2.2.2
theorem am_m_0 : am_m 0 = (⟨"ThingsThrown", "<init>", "()V"⟩, prog_1_method_1_code, 2, none, 0) := rfl
theorem am_mP_0 : am_mP 0 := by unfold am_mP; rw [am_m_0]; exact ⟨am_in1 (i := 17) (by decide +kernel) rfl, am_in1 (i := 1) (by decide +kernel) rfl, by decide +kernel, by decide +kernel, by decide +kernel, by decide +kernel⟩
theorem am_m_1 : am_m 1 = (⟨"ThingsThrown$Telling", "<init>", "()V"⟩, prog_7_method_1_code, 1, none, 5) := rfl
theorem am_mP_1 : am_mP 1 := by unfold am_mP; rw [am_m_1]; exact ⟨am_in1 (i := 27) (by decide +kernel) rfl, am_in1 (i := 2) (by decide +kernel) rfl, by decide +kernel, by decide +kernel, by decide +kernel, by decide +kernel⟩
theorem am_m_2 : am_m 2 = (⟨"ThingsThrown$Troupe", "<init>", "()V"⟩, prog_8_method_1_code, 1, none, 6) := rfl
theorem am_mP_2 : am_mP 2 := by unfold am_mP; rw [am_m_2]; exact ⟨am_in1 (i := 33) (by decide +kernel) rfl, am_in1 (i := 3) (by decide +kernel) rfl, by decide +kernel, by decide +kernel, by decide +kernel, by decide +kernel⟩
theorem am_m_3 : am_m 3 = (⟨"ThingsThrown$Evening", "<init>", "()V"⟩, prog_3_method_1_code, 1, none, 2) := rfl
theorem am_mP_3 : am_mP 3 := by unfold am_mP; rw [am_m_3]; exact ⟨am_in1 (i := 62) (by decide +kernel) rfl, am_in1 (i := 4) (by decide +kernel) rfl, by decide +kernel, by decide +kernel, by decide +kernel, by decide +kernel⟩
theorem am_m_4 : am_m 4 = (⟨"ThingsThrown$Outlook", "<init>", "(LThingsThrown$Troupe;)V"⟩, prog_5_method_1_code, 2, none, 3) := rfl
theorem am_mP_4 : am_mP 4 := by unfold am_mP; rw [am_m_4]; exact ⟨am_in1 (i := 95) (by decide +kernel) rfl, am_in1 (i := 5) (by decide +kernel) rfl, by decide +kernel, by decide +kernel, by decide +kernel, by decide +kernel⟩
theorem am_m_5 : am_m 5 = (⟨"ThingsThrown$Chances", "<init>", "(LThingsThrown$Troupe;)V"⟩, prog_2_method_1_code, 2, none, 1) := rfl
theorem am_mP_5 : am_mP 5 := by unfold am_mP; rw [am_m_5]; exact ⟨am_in1 (i := 117) (by decide +kernel) rfl, am_in1 (i := 6) (by decide +kernel) rfl, by decide +kernel, by decide +kernel, by decide +kernel, by decide +kernel⟩
theorem am_m_6 : am_m 6 = (⟨"ThingsThrown$Sheet", "<init>", "([I)V"⟩, prog_6_method_1_code, 2, none, 4) := rfl
theorem am_mP_6 : am_mP 6 := by unfold am_mP; rw [am_m_6]; exact ⟨am_in1 (i := 126) (by decide +kernel) rfl, am_in1 (i := 7) (by decide +kernel) rfl, by decide +kernel, by decide +kernel, by decide +kernel, by decide +kernel⟩
theorem am_m_7 : am_m 7 = (⟨"ThingsThrown$Evening", "forget", "()V"⟩, prog_3_method_3_code, 1, none, 2) := rfl
theorem am_mP_7 : am_mP 7 := by unfold am_mP; rw [am_m_7]; exact ⟨am_in1 (i := 148) (by decide +kernel) rfl, am_in1 (i := 4) (by decide +kernel) rfl, by decide +kernel, by decide +kernel, by decide +kernel, by decide +kernel⟩
theorem am_m_8 : am_m 8 = (⟨"ThingsThrown", "row", "(II)I"⟩, prog_1_method_2_code, 3, some .int, 0) := rfl
theorem am_mP_8 : am_mP 8 := by unfold am_mP; rw [am_m_8]; exact ⟨am_in1 (i := 192) (by decide +kernel) rfl, am_in1 (i := 1) (by decide +kernel) rfl, by decide +kernel, by decide +kernel, by decide +kernel, by decide +kernel⟩
theorem am_m_9 : am_m 9 = (⟨"ThingsThrown", "isRow", "(I)Z"⟩, prog_1_method_41_code, 1, some .boolean, 0) := rfl
theorem am_mP_9 : am_mP 9 := by unfold am_mP; rw [am_m_9]; exact ⟨am_in1 (i := 195) (by decide +kernel) rfl, am_in1 (i := 1) (by decide +kernel) rfl, by decide +kernel, by decide +kernel, by decide +kernel, by decide +kernel⟩
theorem am_m_10 : am_m 10 = (⟨"ThingsThrown", "found", "(I)I"⟩, prog_1_method_47_code, 2, some .int, 0) := rfl
theorem am_mP_10 : am_mP 10 := by unfold am_mP; rw [am_m_10]; exact ⟨am_in1 (i := 199) (by decide +kernel) rfl, am_in1 (i := 1) (by decide +kernel) rfl, by decide +kernel, by decide +kernel, by decide +kernel, by decide +kernel⟩
theorem am_m_11 : am_m 11 = (⟨"ThingsThrown$Sheet", "begin", "(II)V"⟩, prog_6_method_2_code, 4, none, 4) := rfl
theorem am_mP_11 : am_mP 11 := by unfold am_mP; rw [am_m_11]; exact ⟨am_in1 (i := 203) (by decide +kernel) rfl, am_in1 (i := 7) (by decide +kernel) rfl, by decide +kernel, by decide +kernel, by decide +kernel, by decide +kernel⟩
theorem am_m_12 : am_m 12 = (⟨"ThingsThrown", "lay", "(III)I"⟩, prog_1_method_3_code, 6, some .int, 0) := rfl
theorem am_mP_12 : am_mP 12 := by unfold am_mP; rw [am_m_12]; exact ⟨am_in1 (i := 213) (by decide +kernel) rfl, am_in1 (i := 1) (by decide +kernel) rfl, by decide +kernel, by decide +kernel, by decide +kernel, by decide +kernel⟩
theorem am_m_13 : am_m 13 = (⟨"ThingsThrown", "refusalOfPlace", "(II)I"⟩, prog_1_method_49_code, 4, some .int, 0) := rfl
theorem am_mP_13 : am_mP 13 := by unfold am_mP; rw [am_m_13]; exact ⟨am_in1 (i := 217) (by decide +kernel) rfl, am_in1 (i := 1) (by decide +kernel) rfl, by decide +kernel, by decide +kernel, by decide +kernel, by decide +kernel⟩
theorem am_m_14 : am_m 14 = (⟨"ThingsThrown", "refusalOfRow", "(I)I"⟩, prog_1_method_48_code, 2, some .int, 0) := rfl
theorem am_mP_14 : am_mP 14 := by unfold am_mP; rw [am_m_14]; exact ⟨am_in1 (i := 221) (by decide +kernel) rfl, am_in1 (i := 1) (by decide +kernel) rfl, by decide +kernel, by decide +kernel, by decide +kernel, by decide +kernel⟩
theorem am_m_15 : am_m 15 = (⟨"ThingsThrown$Sheet", "isMissing", "()Z"⟩, prog_6_method_3_code, 1, some .boolean, 4) := rfl
theorem am_mP_15 : am_mP 15 := by unfold am_mP; rw [am_m_15]; exact ⟨am_in1 (i := 225) (by decide +kernel) rfl, am_in1 (i := 7) (by decide +kernel) rfl, by decide +kernel, by decide +kernel, by decide +kernel, by decide +kernel⟩
theorem am_m_16 : am_m 16 = (⟨"ThingsThrown$Sheet", "has", "(I)Z"⟩, prog_6_method_4_code, 2, some .boolean, 4) := rfl
theorem am_mP_16 : am_mP 16 := by unfold am_mP; rw [am_m_16]; exact ⟨am_in1 (i := 229) (by decide +kernel) rfl, am_in1 (i := 7) (by decide +kernel) rfl, by decide +kernel, by decide +kernel, by decide +kernel, by decide +kernel⟩
theorem am_m_17 : am_m 17 = (⟨"ThingsThrown", "tell", "(I)I"⟩, prog_1_method_54_code, 2, some .int, 0) := rfl
theorem am_mP_17 : am_mP 17 := by unfold am_mP; rw [am_m_17]; exact ⟨am_in1 (i := 233) (by decide +kernel) rfl, am_in1 (i := 1) (by decide +kernel) rfl, by decide +kernel, by decide +kernel, by decide +kernel, by decide +kernel⟩
theorem am_m_18 : am_m 18 = (⟨"ThingsThrown", "at", "(II)I"⟩, prog_1_method_4_code, 4, some .int, 0) := rfl
theorem am_mP_18 : am_mP 18 := by unfold am_mP; rw [am_m_18]; exact ⟨am_in1 (i := 237) (by decide +kernel) rfl, am_in1 (i := 1) (by decide +kernel) rfl, by decide +kernel, by decide +kernel, by decide +kernel, by decide +kernel⟩
theorem am_m_19 : am_m 19 = (⟨"ThingsThrown", "tear", "(I)I"⟩, prog_1_method_5_code, 3, some .int, 0) := rfl
theorem am_mP_19 : am_mP 19 := by unfold am_mP; rw [am_m_19]; exact ⟨am_in2 (i := 1) (by decide +kernel) rfl, am_in1 (i := 1) (by decide +kernel) rfl, by decide +kernel, by decide +kernel, by decide +kernel, by decide +kernel⟩
theorem am_m_20 : am_m 20 = (⟨"ThingsThrown", "copy", "(IIIII)I"⟩, prog_1_method_6_code, 6, some .int, 0) := rfl
theorem am_mP_20 : am_mP 20 := by unfold am_mP; rw [am_m_20]; exact ⟨am_in2 (i := 5) (by decide +kernel) rfl, am_in1 (i := 1) (by decide +kernel) rfl, by decide +kernel, by decide +kernel, by decide +kernel, by decide +kernel⟩
theorem am_m_21 : am_m 21 = (⟨"ThingsThrown$Sheet", "hasPart", "(II)Z"⟩, prog_6_method_5_code, 3, some .boolean, 4) := rfl
theorem am_mP_21 : am_mP 21 := by unfold am_mP; rw [am_m_21]; exact ⟨am_in2 (i := 9) (by decide +kernel) rfl, am_in1 (i := 7) (by decide +kernel) rfl, by decide +kernel, by decide +kernel, by decide +kernel, by decide +kernel⟩
theorem am_m_22 : am_m 22 = (⟨"ThingsThrown", "mean", "(I)I"⟩, prog_1_method_7_code, 7, some .int, 0) := rfl
theorem am_mP_22 : am_mP 22 := by unfold am_mP; rw [am_m_22]; exact ⟨am_in2 (i := 16) (by decide +kernel) rfl, am_in1 (i := 1) (by decide +kernel) rfl, by decide +kernel, by decide +kernel, by decide +kernel, by decide +kernel⟩
theorem am_m_23 : am_m 23 = (⟨"ThingsThrown", "text", "(II)I"⟩, prog_1_method_8_code, 3, some .int, 0) := rfl
theorem am_mP_23 : am_mP 23 := by unfold am_mP; rw [am_m_23]; exact ⟨am_in2 (i := 20) (by decide +kernel) rfl, am_in1 (i := 1) (by decide +kernel) rfl, by decide +kernel, by decide +kernel, by decide +kernel, by decide +kernel⟩
theorem am_m_24 : am_m 24 = (⟨"ThingsThrown", "isText", "(I)Z"⟩, prog_1_method_42_code, 1, some .boolean, 0) := rfl
theorem am_mP_24 : am_mP 24 := by unfold am_mP; rw [am_m_24]; exact ⟨am_in2 (i := 23) (by decide +kernel) rfl, am_in1 (i := 1) (by decide +kernel) rfl, by decide +kernel, by decide +kernel, by decide +kernel, by decide +kernel⟩
theorem am_m_25 : am_m 25 = (⟨"ThingsThrown", "put", "(III)I"⟩, prog_1_method_9_code, 6, some .int, 0) := rfl
theorem am_mP_25 : am_mP 25 := by unfold am_mP; rw [am_m_25]; exact ⟨am_in2 (i := 27) (by decide +kernel) rfl, am_in1 (i := 1) (by decide +kernel) rfl, by decide +kernel, by decide +kernel, by decide +kernel, by decide +kernel⟩
theorem am_m_26 : am_m 26 = (⟨"ThingsThrown", "refusalOfText", "(I)I"⟩, prog_1_method_50_code, 2, some .int, 0) := rfl
theorem am_mP_26 : am_mP 26 := by unfold am_mP; rw [am_m_26]; exact ⟨am_in2 (i := 31) (by decide +kernel) rfl, am_in1 (i := 1) (by decide +kernel) rfl, by decide +kernel, by decide +kernel, by decide +kernel, by decide +kernel⟩
theorem am_m_27 : am_m 27 = (⟨"ThingsThrown", "fault", "(I)I"⟩, prog_1_method_10_code, 3, some .int, 0) := rfl
theorem am_mP_27 : am_mP 27 := by unfold am_mP; rw [am_m_27]; exact ⟨am_in2 (i := 35) (by decide +kernel) rfl, am_in1 (i := 1) (by decide +kernel) rfl, by decide +kernel, by decide +kernel, by decide +kernel, by decide +kernel⟩
theorem am_m_28 : am_m 28 = (⟨"ThingsThrown$Telling", "read", "(LThingsThrown$Sheet;)I"⟩, prog_7_method_2_code, 4, some .int, 5) := rfl
theorem am_mP_28 : am_mP 28 := by unfold am_mP; rw [am_m_28]; exact ⟨am_in2 (i := 39) (by decide +kernel) rfl, am_in1 (i := 2) (by decide +kernel) rfl, by decide +kernel, by decide +kernel, by decide +kernel, by decide +kernel⟩
theorem am_m_29 : am_m 29 = (⟨"ThingsThrown$Troupe", "begin", "()V"⟩, prog_8_method_5_code, 1, none, 6) := rfl
theorem am_mP_29 : am_mP 29 := by unfold am_mP; rw [am_m_29]; exact ⟨am_in2 (i := 43) (by decide +kernel) rfl, am_in1 (i := 3) (by decide +kernel) rfl, by decide +kernel, by decide +kernel, by decide +kernel, by decide +kernel⟩
theorem am_m_30 : am_m 30 = (⟨"ThingsThrown$Kinds", "byLetter", "(I)I"⟩, prog_4_method_2_code, 2, some .int, 8) := rfl
theorem am_mP_30 : am_mP 30 := by unfold am_mP; rw [am_m_30]; exact ⟨am_in2 (i := 46) (by decide +kernel) rfl, am_in1 (i := 11) (by decide +kernel) rfl, by decide +kernel, by decide +kernel, by decide +kernel, by decide +kernel⟩
theorem am_m_31 : am_m 31 = (⟨"ThingsThrown$Telling", "isFreeFigure", "(I)Z"⟩, prog_7_method_3_code, 3, some .boolean, 5) := rfl
theorem am_mP_31 : am_mP 31 := by unfold am_mP; rw [am_m_31]; exact ⟨am_in2 (i := 52) (by decide +kernel) rfl, am_in1 (i := 2) (by decide +kernel) rfl, by decide +kernel, by decide +kernel, by decide +kernel, by decide +kernel⟩
theorem am_m_32 : am_m 32 = (⟨"ThingsThrown$Troupe", "sky", "(I)I"⟩, prog_8_method_8_code, 4, some .int, 6) := rfl
theorem am_mP_32 : am_mP 32 := by unfold am_mP; rw [am_m_32]; exact ⟨am_in2 (i := 56) (by decide +kernel) rfl, am_in1 (i := 3) (by decide +kernel) rfl, by decide +kernel, by decide +kernel, by decide +kernel, by decide +kernel⟩
theorem am_m_33 : am_m 33 = (⟨"ThingsThrown$Troupe", "due", "(II)I"⟩, prog_8_method_2_code, 2, some .int, 6) := rfl
theorem am_mP_33 : am_mP 33 := by unfold am_mP; rw [am_m_33]; exact ⟨am_in2 (i := 59) (by decide +kernel) rfl, am_in1 (i := 3) (by decide +kernel) rfl, by decide +kernel, by decide +kernel, by decide +kernel, by decide +kernel⟩
theorem am_m_34 : am_m 34 = (⟨"ThingsThrown$Troupe", "with", "(III)I"⟩, prog_8_method_3_code, 3, some .int, 6) := rfl
theorem am_mP_34 : am_mP 34 := by unfold am_mP; rw [am_m_34]; exact ⟨am_in2 (i := 62) (by decide +kernel) rfl, am_in1 (i := 3) (by decide +kernel) rfl, by decide +kernel, by decide +kernel, by decide +kernel, by decide +kernel⟩
theorem am_m_35 : am_m 35 = (⟨"ThingsThrown$Troupe", "add", "(I)V"⟩, prog_8_method_6_code, 2, none, 6) := rfl
theorem am_mP_35 : am_mP 35 := by unfold am_mP; rw [am_m_35]; exact ⟨am_in2 (i := 66) (by decide +kernel) rfl, am_in1 (i := 3) (by decide +kernel) rfl, by decide +kernel, by decide +kernel, by decide +kernel, by decide +kernel⟩
theorem am_m_36 : am_m 36 = (⟨"ThingsThrown", "things", "(I)I"⟩, prog_1_method_11_code, 4, some .int, 0) := rfl
theorem am_mP_36 : am_mP 36 := by unfold am_mP; rw [am_m_36]; exact ⟨am_in2 (i := 70) (by decide +kernel) rfl, am_in1 (i := 1) (by decide +kernel) rfl, by decide +kernel, by decide +kernel, by decide +kernel, by decide +kernel⟩
theorem am_m_37 : am_m 37 = (⟨"ThingsThrown$Troupe", "takeFrom", "(LThingsThrown$Troupe;)V"⟩, prog_8_method_7_code, 2, none, 6) := rfl
theorem am_mP_37 : am_mP 37 := by unfold am_mP; rw [am_m_37]; exact ⟨am_in2 (i := 74) (by decide +kernel) rfl, am_in1 (i := 3) (by decide +kernel) rfl, by decide +kernel, by decide +kernel, by decide +kernel, by decide +kernel⟩
theorem am_m_38 : am_m 38 = (⟨"ThingsThrown$Evening", "begin", "(I)V"⟩, prog_3_method_2_code, 3, none, 2) := rfl
theorem am_mP_38 : am_mP 38 := by unfold am_mP; rw [am_m_38]; exact ⟨am_in2 (i := 79) (by decide +kernel) rfl, am_in1 (i := 4) (by decide +kernel) rfl, by decide +kernel, by decide +kernel, by decide +kernel, by decide +kernel⟩
theorem am_m_39 : am_m 39 = (⟨"ThingsThrown", "thing", "(II)I"⟩, prog_1_method_12_code, 3, some .int, 0) := rfl
theorem am_mP_39 : am_mP 39 := by unfold am_mP; rw [am_m_39]; exact ⟨am_in2 (i := 83) (by decide +kernel) rfl, am_in1 (i := 1) (by decide +kernel) rfl, by decide +kernel, by decide +kernel, by decide +kernel, by decide +kernel⟩
theorem am_m_40 : am_m 40 = (⟨"ThingsThrown", "isThing", "(I)Z"⟩, prog_1_method_46_code, 2, some .boolean, 0) := rfl
theorem am_mP_40 : am_mP 40 := by unfold am_mP; rw [am_m_40]; exact ⟨am_in2 (i := 87) (by decide +kernel) rfl, am_in1 (i := 1) (by decide +kernel) rfl, by decide +kernel, by decide +kernel, by decide +kernel, by decide +kernel⟩
theorem am_m_41 : am_m 41 = (⟨"ThingsThrown", "ofThing", "(II)I"⟩, prog_1_method_57_code, 3, some .int, 0) := rfl
theorem am_mP_41 : am_mP 41 := by unfold am_mP; rw [am_m_41]; exact ⟨am_in2 (i := 91) (by decide +kernel) rfl, am_in1 (i := 1) (by decide +kernel) rfl, by decide +kernel, by decide +kernel, by decide +kernel, by decide +kernel⟩
theorem am_m_42 : am_m 42 = (⟨"ThingsThrown$Kinds", "heightsOf", "(I)I"⟩, prog_4_method_5_code, 1, some .int, 8) := rfl
theorem am_mP_42 : am_mP 42 := by unfold am_mP; rw [am_m_42]; exact ⟨am_in2 (i := 95) (by decide +kernel) rfl, am_in1 (i := 11) (by decide +kernel) rfl, by decide +kernel, by decide +kernel, by decide +kernel, by decide +kernel⟩
theorem am_m_43 : am_m 43 = (⟨"ThingsThrown", "mark", "(II)I"⟩, prog_1_method_13_code, 4, some .int, 0) := rfl
theorem am_mP_43 : am_mP 43 := by unfold am_mP; rw [am_m_43]; exact ⟨am_in2 (i := 103) (by decide +kernel) rfl, am_in1 (i := 1) (by decide +kernel) rfl, by decide +kernel, by decide +kernel, by decide +kernel, by decide +kernel⟩
theorem am_m_44 : am_m 44 = (⟨"ThingsThrown$Kinds", "isOf", "(II)Z"⟩, prog_4_method_3_code, 2, some .boolean, 8) := rfl
theorem am_mP_44 : am_mP 44 := by unfold am_mP; rw [am_m_44]; exact ⟨am_in2 (i := 106) (by decide +kernel) rfl, am_in1 (i := 11) (by decide +kernel) rfl, by decide +kernel, by decide +kernel, by decide +kernel, by decide +kernel⟩
theorem am_m_45 : am_m 45 = (⟨"ThingsThrown$Kinds", "heightsLater", "(I)I"⟩, prog_4_method_6_code, 3, some .int, 8) := rfl
theorem am_mP_45 : am_mP 45 := by unfold am_mP; rw [am_m_45]; exact ⟨am_in2 (i := 111) (by decide +kernel) rfl, am_in1 (i := 11) (by decide +kernel) rfl, by decide +kernel, by decide +kernel, by decide +kernel, by decide +kernel⟩
theorem am_m_46 : am_m 46 = (⟨"ThingsThrown$Kinds", "flight", "(II)I"⟩, prog_4_method_4_code, 2, some .int, 8) := rfl
theorem am_mP_46 : am_mP 46 := by unfold am_mP; rw [am_m_46]; exact ⟨am_in2 (i := 114) (by decide +kernel) rfl, am_in1 (i := 11) (by decide +kernel) rfl, by decide +kernel, by decide +kernel, by decide +kernel, by decide +kernel⟩
theorem am_m_47 : am_m 47 = (⟨"ThingsThrown$Kinds", "heightsSooner", "(I)I"⟩, prog_4_method_7_code, 3, some .int, 8) := rfl
theorem am_mP_47 : am_mP 47 := by unfold am_mP; rw [am_m_47]; exact ⟨am_in2 (i := 119) (by decide +kernel) rfl, am_in1 (i := 11) (by decide +kernel) rfl, by decide +kernel, by decide +kernel, by decide +kernel, by decide +kernel⟩
theorem am_m_48 : am_m 48 = (⟨"ThingsThrown$Troupe", "torchesAhead", "(II)I"⟩, prog_8_method_12_code, 5, some .int, 6) := rfl
theorem am_mP_48 : am_mP 48 := by unfold am_mP; rw [am_m_48]; exact ⟨am_in2 (i := 123) (by decide +kernel) rfl, am_in1 (i := 3) (by decide +kernel) rfl, by decide +kernel, by decide +kernel, by decide +kernel, by decide +kernel⟩
theorem am_m_49 : am_m 49 = (⟨"ThingsThrown$Troupe", "thingsBehind", "(II)I"⟩, prog_8_method_13_code, 5, some .int, 6) := rfl
theorem am_mP_49 : am_mP 49 := by unfold am_mP; rw [am_m_49]; exact ⟨am_in2 (i := 127) (by decide +kernel) rfl, am_in1 (i := 3) (by decide +kernel) rfl, by decide +kernel, by decide +kernel, by decide +kernel, by decide +kernel⟩
theorem am_m_50 : am_m 50 = (⟨"ThingsThrown", "toss", "(I)I"⟩, prog_1_method_14_code, 2, some .int, 0) := rfl
theorem am_mP_50 : am_mP 50 := by unfold am_mP; rw [am_m_50]; exact ⟨am_in2 (i := 131) (by decide +kernel) rfl, am_in1 (i := 1) (by decide +kernel) rfl, by decide +kernel, by decide +kernel, by decide +kernel, by decide +kernel⟩
theorem am_m_51 : am_m 51 = (⟨"ThingsThrown", "isHeight", "(I)Z"⟩, prog_1_method_43_code, 1, some .boolean, 0) := rfl
theorem am_mP_51 : am_mP 51 := by unfold am_mP; rw [am_m_51]; exact ⟨am_in2 (i := 134) (by decide +kernel) rfl, am_in1 (i := 1) (by decide +kernel) rfl, by decide +kernel, by decide +kernel, by decide +kernel, by decide +kernel⟩
theorem am_m_52 : am_m 52 = (⟨"ThingsThrown$Troupe", "mayGo", "(II)Z"⟩, prog_8_method_17_code, 4, some .boolean, 6) := rfl
theorem am_mP_52 : am_mP 52 := by unfold am_mP; rw [am_m_52]; exact ⟨am_in2 (i := 138) (by decide +kernel) rfl, am_in1 (i := 3) (by decide +kernel) rfl, by decide +kernel, by decide +kernel, by decide +kernel, by decide +kernel⟩
theorem am_m_53 : am_m 53 = (⟨"ThingsThrown$Troupe", "dueNow", "(I)I"⟩, prog_8_method_9_code, 3, some .int, 6) := rfl
theorem am_mP_53 : am_mP 53 := by unfold am_mP; rw [am_m_53]; exact ⟨am_in2 (i := 142) (by decide +kernel) rfl, am_in1 (i := 3) (by decide +kernel) rfl, by decide +kernel, by decide +kernel, by decide +kernel, by decide +kernel⟩
theorem am_m_54 : am_m 54 = (⟨"ThingsThrown$Troupe", "isFree", "(II)Z"⟩, prog_8_method_19_code, 2, some .boolean, 6) := rfl
theorem am_mP_54 : am_mP 54 := by unfold am_mP; rw [am_m_54]; exact ⟨am_in2 (i := 147) (by decide +kernel) rfl, am_in1 (i := 3) (by decide +kernel) rfl, by decide +kernel, by decide +kernel, by decide +kernel, by decide +kernel⟩
theorem am_m_55 : am_m 55 = (⟨"ThingsThrown$Evening", "isFull", "()Z"⟩, prog_3_method_5_code, 1, some .boolean, 2) := rfl
theorem am_mP_55 : am_mP 55 := by unfold am_mP; rw [am_m_55]; exact ⟨am_in2 (i := 151) (by decide +kernel) rfl, am_in1 (i := 4) (by decide +kernel) rfl, by decide +kernel, by decide +kernel, by decide +kernel, by decide +kernel⟩
theorem am_m_56 : am_m 56 = (⟨"ThingsThrown", "enterThrow", "(I)V"⟩, prog_1_method_61_code, 3, none, 0) := rfl
theorem am_mP_56 : am_mP 56 := by unfold am_mP; rw [am_m_56]; exact ⟨am_in2 (i := 155) (by decide +kernel) rfl, am_in1 (i := 1) (by decide +kernel) rfl, by decide +kernel, by decide +kernel, by decide +kernel, by decide +kernel⟩
theorem am_m_57 : am_m 57 = (⟨"ThingsThrown$Troupe", "thrown", "(II)I"⟩, prog_8_method_20_code, 4, some .int, 6) := rfl
theorem am_mP_57 : am_mP 57 := by unfold am_mP; rw [am_m_57]; exact ⟨am_in2 (i := 160) (by decide +kernel) rfl, am_in1 (i := 3) (by decide +kernel) rfl, by decide +kernel, by decide +kernel, by decide +kernel, by decide +kernel⟩
theorem am_m_58 : am_m 58 = (⟨"ThingsThrown$Troupe", "later", "(II)I"⟩, prog_8_method_15_code, 3, some .int, 6) := rfl
theorem am_mP_58 : am_mP 58 := by unfold am_mP; rw [am_m_58]; exact ⟨am_in2 (i := 165) (by decide +kernel) rfl, am_in1 (i := 3) (by decide +kernel) rfl, by decide +kernel, by decide +kernel, by decide +kernel, by decide +kernel⟩
theorem am_m_59 : am_m 59 = (⟨"ThingsThrown$Evening", "enter", "(III)V"⟩, prog_3_method_6_code, 4, none, 2) := rfl
theorem am_mP_59 : am_mP 59 := by unfold am_mP; rw [am_m_59]; exact ⟨am_in2 (i := 170) (by decide +kernel) rfl, am_in1 (i := 4) (by decide +kernel) rfl, by decide +kernel, by decide +kernel, by decide +kernel, by decide +kernel⟩
theorem am_m_60 : am_m 60 = (⟨"ThingsThrown$Evening", "isForgotten", "()Z"⟩, prog_3_method_4_code, 1, some .boolean, 2) := rfl
theorem am_mP_60 : am_mP 60 := by unfold am_mP; rw [am_m_60]; exact ⟨am_in2 (i := 174) (by decide +kernel) rfl, am_in1 (i := 4) (by decide +kernel) rfl, by decide +kernel, by decide +kernel, by decide +kernel, by decide +kernel⟩
theorem am_m_61 : am_m 61 = (⟨"ThingsThrown", "skyNow", "()I"⟩, prog_1_method_58_code, 1, some .int, 0) := rfl
theorem am_mP_61 : am_mP 61 := by unfold am_mP; rw [am_m_61]; exact ⟨am_in2 (i := 179) (by decide +kernel) rfl, am_in1 (i := 1) (by decide +kernel) rfl, by decide +kernel, by decide +kernel, by decide +kernel, by decide +kernel⟩
theorem am_m_62 : am_m 62 = (⟨"ThingsThrown", "rest", "()I"⟩, prog_1_method_15_code, 1, some .int, 0) := rfl
theorem am_mP_62 : am_mP 62 := by unfold am_mP; rw [am_m_62]; exact ⟨am_in2 (i := 184) (by decide +kernel) rfl, am_in1 (i := 1) (by decide +kernel) rfl, by decide +kernel, by decide +kernel, by decide +kernel, by decide +kernel⟩
theorem am_m_63 : am_m 63 = (⟨"ThingsThrown", "enterRest", "()V"⟩, prog_1_method_62_code, 1, none, 0) := rfl
theorem am_mP_63 : am_mP 63 := by unfold am_mP; rw [am_m_63]; exact ⟨am_in2 (i := 188) (by decide +kernel) rfl, am_in1 (i := 1) (by decide +kernel) rfl, by decide +kernel, by decide +kernel, by decide +kernel, by decide +kernel⟩
theorem am_m_64 : am_m 64 = (⟨"ThingsThrown", "exchange", "(II)I"⟩, prog_1_method_16_code, 3, some .int, 0) := rfl
theorem am_mP_64 : am_mP 64 := by unfold am_mP; rw [am_m_64]; exact ⟨am_in2 (i := 193) (by decide +kernel) rfl, am_in1 (i := 1) (by decide +kernel) rfl, by decide +kernel, by decide +kernel, by decide +kernel, by decide +kernel⟩
theorem am_m_65 : am_m 65 = (⟨"ThingsThrown", "enterExchange", "(II)V"⟩, prog_1_method_63_code, 3, none, 0) := rfl
theorem am_mP_65 : am_mP 65 := by unfold am_mP; rw [am_m_65]; exact ⟨am_in2 (i := 197) (by decide +kernel) rfl, am_in1 (i := 1) (by decide +kernel) rfl, by decide +kernel, by decide +kernel, by decide +kernel, by decide +kernel⟩
theorem am_m_66 : am_m 66 = (⟨"ThingsThrown$Troupe", "exchanged", "(III)I"⟩, prog_8_method_4_code, 3, some .int, 6) := rfl
theorem am_mP_66 : am_mP 66 := by unfold am_mP; rw [am_m_66]; exact ⟨am_in2 (i := 200) (by decide +kernel) rfl, am_in1 (i := 3) (by decide +kernel) rfl, by decide +kernel, by decide +kernel, by decide +kernel, by decide +kernel⟩
theorem am_m_67 : am_m 67 = (⟨"ThingsThrown", "undo", "(I)I"⟩, prog_1_method_17_code, 3, some .int, 0) := rfl
theorem am_mP_67 : am_mP 67 := by unfold am_mP; rw [am_m_67]; exact ⟨am_in2 (i := 204) (by decide +kernel) rfl, am_in1 (i := 1) (by decide +kernel) rfl, by decide +kernel, by decide +kernel, by decide +kernel, by decide +kernel⟩
theorem am_m_68 : am_m 68 = (⟨"ThingsThrown$Evening", "takeBack", "(I)V"⟩, prog_3_method_7_code, 3, none, 2) := rfl
theorem am_mP_68 : am_mP 68 := by unfold am_mP; rw [am_m_68]; exact ⟨am_in2 (i := 208) (by decide +kernel) rfl, am_in1 (i := 4) (by decide +kernel) rfl, by decide +kernel, by decide +kernel, by decide +kernel, by decide +kernel⟩
theorem am_m_69 : am_m 69 = (⟨"ThingsThrown", "keep", "(I)I"⟩, prog_1_method_18_code, 2, some .int, 0) := rfl
theorem am_mP_69 : am_mP 69 := by unfold am_mP; rw [am_m_69]; exact ⟨am_in2 (i := 212) (by decide +kernel) rfl, am_in1 (i := 1) (by decide +kernel) rfl, by decide +kernel, by decide +kernel, by decide +kernel, by decide +kernel⟩
theorem am_m_70 : am_m 70 = (⟨"ThingsThrown", "isPlaceKept", "(I)Z"⟩, prog_1_method_45_code, 1, some .boolean, 0) := rfl
theorem am_mP_70 : am_mP 70 := by unfold am_mP; rw [am_m_70]; exact ⟨am_in2 (i := 215) (by decide +kernel) rfl, am_in1 (i := 1) (by decide +kernel) rfl, by decide +kernel, by decide +kernel, by decide +kernel, by decide +kernel⟩
theorem am_m_71 : am_m 71 = (⟨"ThingsThrown$Evening", "takeFrom", "(LThingsThrown$Evening;)V"⟩, prog_3_method_9_code, 2, none, 2) := rfl
theorem am_mP_71 : am_mP 71 := by unfold am_mP; rw [am_m_71]; exact ⟨am_in2 (i := 219) (by decide +kernel) rfl, am_in1 (i := 4) (by decide +kernel) rfl, by decide +kernel, by decide +kernel, by decide +kernel, by decide +kernel⟩
theorem am_m_72 : am_m 72 = (⟨"ThingsThrown", "on", "(I)I"⟩, prog_1_method_19_code, 2, some .int, 0) := rfl
theorem am_mP_72 : am_mP 72 := by unfold am_mP; rw [am_m_72]; exact ⟨am_in2 (i := 224) (by decide +kernel) rfl, am_in1 (i := 1) (by decide +kernel) rfl, by decide +kernel, by decide +kernel, by decide +kernel, by decide +kernel⟩
theorem am_m_73 : am_m 73 = (⟨"ThingsThrown", "lands", "(II)I"⟩, prog_1_method_20_code, 3, some .int, 0) := rfl
theorem am_mP_73 : am_mP 73 := by unfold am_mP; rw [am_m_73]; exact ⟨am_in2 (i := 229) (by decide +kernel) rfl, am_in1 (i := 1) (by decide +kernel) rfl, by decide +kernel, by decide +kernel, by decide +kernel, by decide +kernel⟩
theorem am_m_74 : am_m 74 = (⟨"ThingsThrown", "may", "()I"⟩, prog_1_method_21_code, 2, some .int, 0) := rfl
theorem am_mP_74 : am_mP 74 := by unfold am_mP; rw [am_m_74]; exact ⟨am_in2 (i := 234) (by decide +kernel) rfl, am_in1 (i := 1) (by decide +kernel) rfl, by decide +kernel, by decide +kernel, by decide +kernel, by decide +kernel⟩
theorem am_m_75 : am_m 75 = (⟨"ThingsThrown$Troupe", "heightsNow", "(I)I"⟩, prog_8_method_18_code, 6, some .int, 6) := rfl
theorem am_mP_75 : am_mP 75 := by unfold am_mP; rw [am_m_75]; exact ⟨am_in2 (i := 238) (by decide +kernel) rfl, am_in1 (i := 3) (by decide +kernel) rfl, by decide +kernel, by decide +kernel, by decide +kernel, by decide +kernel⟩
theorem am_m_76 : am_m 76 = (⟨"ThingsThrown", "run", "(I)I"⟩, prog_1_method_22_code, 4, some .int, 0) := rfl
theorem am_mP_76 : am_mP 76 := by unfold am_mP; rw [am_m_76]; exact ⟨am_in3 (i := 2) (by decide +kernel) rfl, am_in1 (i := 1) (by decide +kernel) rfl, by decide +kernel, by decide +kernel, by decide +kernel, by decide +kernel⟩
theorem am_m_77 : am_m 77 = (⟨"ThingsThrown", "refusalOfThrows", "(III)I"⟩, prog_1_method_51_code, 7, some .int, 0) := rfl
theorem am_mP_77 : am_mP 77 := by unfold am_mP; rw [am_m_77]; exact ⟨am_in3 (i := 6) (by decide +kernel) rfl, am_in1 (i := 1) (by decide +kernel) rfl, by decide +kernel, by decide +kernel, by decide +kernel, by decide +kernel⟩
theorem am_m_78 : am_m 78 = (⟨"ThingsThrown$Outlook", "throwsMade", "(ILThingsThrown$Sheet;)I"⟩, prog_5_method_2_code, 4, some .int, 3) := rfl
theorem am_mP_78 : am_mP 78 := by unfold am_mP; rw [am_m_78]; exact ⟨am_in3 (i := 10) (by decide +kernel) rfl, am_in1 (i := 5) (by decide +kernel) rfl, by decide +kernel, by decide +kernel, by decide +kernel, by decide +kernel⟩
theorem am_m_79 : am_m 79 = (⟨"ThingsThrown$Troupe", "rested", "(I)I"⟩, prog_8_method_16_code, 2, some .int, 6) := rfl
theorem am_mP_79 : am_mP 79 := by unfold am_mP; rw [am_m_79]; exact ⟨am_in3 (i := 14) (by decide +kernel) rfl, am_in1 (i := 3) (by decide +kernel) rfl, by decide +kernel, by decide +kernel, by decide +kernel, by decide +kernel⟩
theorem am_m_80 : am_m 80 = (⟨"ThingsThrown$Troupe", "restsAhead", "(I)I"⟩, prog_8_method_14_code, 4, some .int, 6) := rfl
theorem am_mP_80 : am_mP 80 := by unfold am_mP; rw [am_m_80]; exact ⟨am_in3 (i := 18) (by decide +kernel) rfl, am_in1 (i := 3) (by decide +kernel) rfl, by decide +kernel, by decide +kernel, by decide +kernel, by decide +kernel⟩
theorem am_m_81 : am_m 81 = (⟨"ThingsThrown", "rounds", "(I)I"⟩, prog_1_method_23_code, 3, some .int, 0) := rfl
theorem am_mP_81 : am_mP 81 := by unfold am_mP; rw [am_m_81]; exact ⟨am_in3 (i := 25) (by decide +kernel) rfl, am_in1 (i := 1) (by decide +kernel) rfl, by decide +kernel, by decide +kernel, by decide +kernel, by decide +kernel⟩
theorem am_m_82 : am_m 82 = (⟨"ThingsThrown$Outlook", "roundsBack", "(ILThingsThrown$Sheet;)I"⟩, prog_5_method_3_code, 5, some .int, 3) := rfl
theorem am_mP_82 : am_mP 82 := by unfold am_mP; rw [am_m_82]; exact ⟨am_in3 (i := 29) (by decide +kernel) rfl, am_in1 (i := 5) (by decide +kernel) rfl, by decide +kernel, by decide +kernel, by decide +kernel, by decide +kernel⟩
theorem am_m_83 : am_m 83 = (⟨"ThingsThrown$Outlook", "comesToDues", "(II)Z"⟩, prog_5_method_4_code, 5, some .boolean, 3) := rfl
theorem am_mP_83 : am_mP 83 := by unfold am_mP; rw [am_m_83]; exact ⟨am_in3 (i := 34) (by decide +kernel) rfl, am_in1 (i := 5) (by decide +kernel) rfl, by decide +kernel, by decide +kernel, by decide +kernel, by decide +kernel⟩
theorem am_m_84 : am_m 84 = (⟨"ThingsThrown", "fewest", "(II)I"⟩, prog_1_method_24_code, 4, some .int, 0) := rfl
theorem am_mP_84 : am_mP 84 := by unfold am_mP; rw [am_m_84]; exact ⟨am_in3 (i := 40) (by decide +kernel) rfl, am_in1 (i := 1) (by decide +kernel) rfl, by decide +kernel, by decide +kernel, by decide +kernel, by decide +kernel⟩
theorem am_m_85 : am_m 85 = (⟨"ThingsThrown", "isSky", "(I)Z"⟩, prog_1_method_44_code, 1, some .boolean, 0) := rfl
theorem am_mP_85 : am_mP 85 := by unfold am_mP; rw [am_m_85]; exact ⟨am_in3 (i := 43) (by decide +kernel) rfl, am_in1 (i := 1) (by decide +kernel) rfl, by decide +kernel, by decide +kernel, by decide +kernel, by decide +kernel⟩
theorem am_m_86 : am_m 86 = (⟨"ThingsThrown$Outlook", "fewestTo", "(II)I"⟩, prog_5_method_6_code, 4, some .int, 3) := rfl
theorem am_mP_86 : am_mP 86 := by unfold am_mP; rw [am_m_86]; exact ⟨am_in3 (i := 48) (by decide +kernel) rfl, am_in1 (i := 5) (by decide +kernel) rfl, by decide +kernel, by decide +kernel, by decide +kernel, by decide +kernel⟩
theorem am_m_87 : am_m 87 = (⟨"java/lang/Integer", "bitCount", "(I)I"⟩, prog_11_method_49_code, 1, some .int, 9) := rfl
theorem am_mP_87 : am_mP 87 := by unfold am_mP; rw [am_m_87]; exact ⟨am_in3 (i := 51) (by decide +kernel) rfl, am_in1 (i := 12) (by decide +kernel) rfl, by decide +kernel, by decide +kernel, by decide +kernel, by decide +kernel⟩
theorem am_m_88 : am_m 88 = (⟨"ThingsThrown$Outlook", "leadsTo", "(IIII)Z"⟩, prog_5_method_7_code, 8, some .boolean, 3) := rfl
theorem am_mP_88 : am_mP 88 := by unfold am_mP; rw [am_m_88]; exact ⟨am_in3 (i := 58) (by decide +kernel) rfl, am_in1 (i := 5) (by decide +kernel) rfl, by decide +kernel, by decide +kernel, by decide +kernel, by decide +kernel⟩
theorem am_m_89 : am_m 89 = (⟨"ThingsThrown$Outlook", "comesToSky", "(II)Z"⟩, prog_5_method_5_code, 6, some .boolean, 3) := rfl
theorem am_mP_89 : am_mP 89 := by unfold am_mP; rw [am_m_89]; exact ⟨am_in3 (i := 62) (by decide +kernel) rfl, am_in1 (i := 5) (by decide +kernel) rfl, by decide +kernel, by decide +kernel, by decide +kernel, by decide +kernel⟩
theorem am_m_90 : am_m 90 = (⟨"ThingsThrown", "ways", "(I)I"⟩, prog_1_method_25_code, 2, some .int, 0) := rfl
theorem am_mP_90 : am_mP 90 := by unfold am_mP; rw [am_m_90]; exact ⟨am_in3 (i := 68) (by decide +kernel) rfl, am_in1 (i := 1) (by decide +kernel) rfl, by decide +kernel, by decide +kernel, by decide +kernel, by decide +kernel⟩
theorem am_m_91 : am_m 91 = (⟨"ThingsThrown$Outlook", "waysBack", "(II)J"⟩, prog_5_method_8_code, 11, some .long, 3) := rfl
theorem am_mP_91 : am_mP 91 := by unfold am_mP; rw [am_m_91]; exact ⟨am_in3 (i := 72) (by decide +kernel) rfl, am_in1 (i := 5) (by decide +kernel) rfl, by decide +kernel, by decide +kernel, by decide +kernel, by decide +kernel⟩
theorem am_m_92 : am_m 92 = (⟨"ThingsThrown$Outlook", "waysTo", "(III)J"⟩, prog_5_method_9_code, 9, some .long, 3) := rfl
theorem am_mP_92 : am_mP 92 := by unfold am_mP; rw [am_m_92]; exact ⟨am_in3 (i := 76) (by decide +kernel) rfl, am_in1 (i := 5) (by decide +kernel) rfl, by decide +kernel, by decide +kernel, by decide +kernel, by decide +kernel⟩
theorem am_m_93 : am_m 93 = (⟨"ThingsThrown", "tellRatio", "(JJ)I"⟩, prog_1_method_55_code, 7, some .int, 0) := rfl
theorem am_mP_93 : am_mP 93 := by unfold am_mP; rw [am_m_93]; exact ⟨am_in3 (i := 80) (by decide +kernel) rfl, am_in1 (i := 1) (by decide +kernel) rfl, by decide +kernel, by decide +kernel, by decide +kernel, by decide +kernel⟩
theorem am_m_94 : am_m 94 = (⟨"ThingsThrown", "sharedDivisor", "(JJ)J"⟩, prog_1_method_56_code, 11, some .long, 0) := rfl
theorem am_mP_94 : am_mP 94 := by unfold am_mP; rw [am_m_94]; exact ⟨am_in3 (i := 83) (by decide +kernel) rfl, am_in1 (i := 1) (by decide +kernel) rfl, by decide +kernel, by decide +kernel, by decide +kernel, by decide +kernel⟩
theorem am_m_95 : am_m 95 = (⟨"ThingsThrown", "height", "(I)I"⟩, prog_1_method_26_code, 2, some .int, 0) := rfl
theorem am_mP_95 : am_mP 95 := by unfold am_mP; rw [am_m_95]; exact ⟨am_in3 (i := 87) (by decide +kernel) rfl, am_in1 (i := 1) (by decide +kernel) rfl, by decide +kernel, by decide +kernel, by decide +kernel, by decide +kernel⟩
theorem am_m_96 : am_m 96 = (⟨"ThingsThrown$Outlook", "heightsTo", "(II)I"⟩, prog_5_method_10_code, 6, some .int, 3) := rfl
theorem am_mP_96 : am_mP 96 := by unfold am_mP; rw [am_m_96]; exact ⟨am_in3 (i := 91) (by decide +kernel) rfl, am_in1 (i := 5) (by decide +kernel) rfl, by decide +kernel, by decide +kernel, by decide +kernel, by decide +kernel⟩
theorem am_m_97 : am_m 97 = (⟨"ThingsThrown", "kinds", "(II)I"⟩, prog_1_method_27_code, 4, some .int, 0) := rfl
theorem am_mP_97 : am_mP 97 := by unfold am_mP; rw [am_m_97]; exact ⟨am_in3 (i := 95) (by decide +kernel) rfl, am_in1 (i := 1) (by decide +kernel) rfl, by decide +kernel, by decide +kernel, by decide +kernel, by decide +kernel⟩
theorem am_m_98 : am_m 98 = (⟨"ThingsThrown", "refusalOfPairs", "(II)I"⟩, prog_1_method_53_code, 7, some .int, 0) := rfl
theorem am_mP_98 : am_mP 98 := by unfold am_mP; rw [am_m_98]; exact ⟨am_in3 (i := 99) (by decide +kernel) rfl, am_in1 (i := 1) (by decide +kernel) rfl, by decide +kernel, by decide +kernel, by decide +kernel, by decide +kernel⟩
theorem am_m_99 : am_m 99 = (⟨"ThingsThrown$Kinds", "fitting", "(LThingsThrown$Sheet;)I"⟩, prog_4_method_8_code, 3, some .int, 8) := rfl
theorem am_mP_99 : am_mP 99 := by unfold am_mP; rw [am_m_99]; exact ⟨am_in3 (i := 102) (by decide +kernel) rfl, am_in1 (i := 11) (by decide +kernel) rfl, by decide +kernel, by decide +kernel, by decide +kernel, by decide +kernel⟩
theorem am_m_100 : am_m 100 = (⟨"ThingsThrown$Kinds", "fits", "(ILThingsThrown$Sheet;)Z"⟩, prog_4_method_9_code, 3, some .boolean, 8) := rfl
theorem am_mP_100 : am_mP 100 := by unfold am_mP; rw [am_m_100]; exact ⟨am_in3 (i := 105) (by decide +kernel) rfl, am_in1 (i := 11) (by decide +kernel) rfl, by decide +kernel, by decide +kernel, by decide +kernel, by decide +kernel⟩
theorem am_m_101 : am_m 101 = (⟨"ThingsThrown", "next", "(II)I"⟩, prog_1_method_28_code, 6, some .int, 0) := rfl
theorem am_mP_101 : am_mP 101 := by unfold am_mP; rw [am_m_101]; exact ⟨am_in3 (i := 109) (by decide +kernel) rfl, am_in1 (i := 1) (by decide +kernel) rfl, by decide +kernel, by decide +kernel, by decide +kernel, by decide +kernel⟩
theorem am_m_102 : am_m 102 = (⟨"ThingsThrown$Kinds", "heightToTry", "(I)I"⟩, prog_4_method_10_code, 3, some .int, 8) := rfl
theorem am_mP_102 : am_mP 102 := by unfold am_mP; rw [am_m_102]; exact ⟨am_in3 (i := 112) (by decide +kernel) rfl, am_in1 (i := 11) (by decide +kernel) rfl, by decide +kernel, by decide +kernel, by decide +kernel, by decide +kernel⟩
theorem am_m_103 : am_m 103 = (⟨"ThingsThrown$Kinds", "greatestPart", "(II)I"⟩, prog_4_method_11_code, 4, some .int, 8) := rfl
theorem am_mP_103 : am_mP 103 := by unfold am_mP; rw [am_m_103]; exact ⟨am_in3 (i := 115) (by decide +kernel) rfl, am_in1 (i := 11) (by decide +kernel) rfl, by decide +kernel, by decide +kernel, by decide +kernel, by decide +kernel⟩
theorem am_m_104 : am_m 104 = (⟨"ThingsThrown$Kinds", "alike", "(III)I"⟩, prog_4_method_12_code, 5, some .int, 8) := rfl
theorem am_mP_104 : am_mP 104 := by unfold am_mP; rw [am_m_104]; exact ⟨am_in3 (i := 118) (by decide +kernel) rfl, am_in1 (i := 11) (by decide +kernel) rfl, by decide +kernel, by decide +kernel, by decide +kernel, by decide +kernel⟩
theorem am_m_105 : am_m 105 = (⟨"ThingsThrown", "duel", "(I)I"⟩, prog_1_method_29_code, 2, some .int, 0) := rfl
theorem am_mP_105 : am_mP 105 := by unfold am_mP; rw [am_m_105]; exact ⟨am_in3 (i := 123) (by decide +kernel) rfl, am_in1 (i := 1) (by decide +kernel) rfl, by decide +kernel, by decide +kernel, by decide +kernel, by decide +kernel⟩
theorem am_m_106 : am_m 106 = (⟨"ThingsThrown$Outlook", "bestByTurns", "(II)I"⟩, prog_5_method_11_code, 3, some .int, 3) := rfl
theorem am_mP_106 : am_mP 106 := by unfold am_mP; rw [am_m_106]; exact ⟨am_in3 (i := 127) (by decide +kernel) rfl, am_in1 (i := 5) (by decide +kernel) rfl, by decide +kernel, by decide +kernel, by decide +kernel, by decide +kernel⟩
theorem am_m_107 : am_m 107 = (⟨"ThingsThrown$Outlook", "bestFrom", "(II)I"⟩, prog_5_method_12_code, 9, some .int, 3) := rfl
theorem am_mP_107 : am_mP 107 := by unfold am_mP; rw [am_m_107]; exact ⟨am_in3 (i := 131) (by decide +kernel) rfl, am_in1 (i := 5) (by decide +kernel) rfl, by decide +kernel, by decide +kernel, by decide +kernel, by decide +kernel⟩
theorem am_m_108 : am_m 108 = (⟨"ThingsThrown$Troupe", "dueTogether", "(I)I"⟩, prog_8_method_10_code, 4, some .int, 6) := rfl
theorem am_mP_108 : am_mP 108 := by unfold am_mP; rw [am_m_108]; exact ⟨am_in3 (i := 135) (by decide +kernel) rfl, am_in1 (i := 3) (by decide +kernel) rfl, by decide +kernel, by decide +kernel, by decide +kernel, by decide +kernel⟩
theorem am_m_109 : am_m 109 = (⟨"ThingsThrown", "odds", "(II)I"⟩, prog_1_method_30_code, 6, some .int, 0) := rfl
theorem am_mP_109 : am_mP 109 := by unfold am_mP; rw [am_m_109]; exact ⟨am_in3 (i := 143) (by decide +kernel) rfl, am_in1 (i := 1) (by decide +kernel) rfl, by decide +kernel, by decide +kernel, by decide +kernel, by decide +kernel⟩
theorem am_m_110 : am_m 110 = (⟨"ThingsThrown", "refusalOfChances", "(II)I"⟩, prog_1_method_52_code, 3, some .int, 0) := rfl
theorem am_mP_110 : am_mP 110 := by unfold am_mP; rw [am_m_110]; exact ⟨am_in3 (i := 147) (by decide +kernel) rfl, am_in1 (i := 1) (by decide +kernel) rfl, by decide +kernel, by decide +kernel, by decide +kernel, by decide +kernel⟩
theorem am_m_111 : am_m 111 = (⟨"ThingsThrown$Chances", "weightOfAll", "(ILThingsThrown$Sheet;I)J"⟩, prog_2_method_3_code, 4, some .long, 1) := rfl
theorem am_mP_111 : am_mP 111 := by unfold am_mP; rw [am_m_111]; exact ⟨am_in3 (i := 151) (by decide +kernel) rfl, am_in1 (i := 6) (by decide +kernel) rfl, by decide +kernel, by decide +kernel, by decide +kernel, by decide +kernel⟩
theorem am_m_112 : am_m 112 = (⟨"ThingsThrown$Chances", "weightFrom", "(ILThingsThrown$Sheet;IIZ)J"⟩, prog_2_method_5_code, 13, some .long, 1) := rfl
theorem am_mP_112 : am_mP 112 := by unfold am_mP; rw [am_m_112]; exact ⟨am_in3 (i := 155) (by decide +kernel) rfl, am_in1 (i := 6) (by decide +kernel) rfl, by decide +kernel, by decide +kernel, by decide +kernel, by decide +kernel⟩
theorem am_m_113 : am_m 113 = (⟨"ThingsThrown$Chances", "weight", "(I)J"⟩, prog_2_method_2_code, 4, some .long, 1) := rfl
theorem am_mP_113 : am_mP 113 := by unfold am_mP; rw [am_m_113]; exact ⟨am_in3 (i := 160) (by decide +kernel) rfl, am_in1 (i := 6) (by decide +kernel) rfl, by decide +kernel, by decide +kernel, by decide +kernel, by decide +kernel⟩
theorem am_m_114 : am_m 114 = (⟨"ThingsThrown", "mid", "(II)I"⟩, prog_1_method_31_code, 6, some .int, 0) := rfl
theorem am_mP_114 : am_mP 114 := by unfold am_mP; rw [am_m_114]; exact ⟨am_in3 (i := 168) (by decide +kernel) rfl, am_in1 (i := 1) (by decide +kernel) rfl, by decide +kernel, by decide +kernel, by decide +kernel, by decide +kernel⟩
theorem am_m_115 : am_m 115 = (⟨"ThingsThrown$Chances", "weightOfMade", "(ILThingsThrown$Sheet;I)J"⟩, prog_2_method_4_code, 4, some .long, 1) := rfl
theorem am_mP_115 : am_mP 115 := by unfold am_mP; rw [am_m_115]; exact ⟨am_in3 (i := 172) (by decide +kernel) rfl, am_in1 (i := 6) (by decide +kernel) rfl, by decide +kernel, by decide +kernel, by decide +kernel, by decide +kernel⟩
theorem am_m_116 : am_m 116 = (⟨"ThingsThrown", "lots", "(II)I"⟩, prog_1_method_32_code, 6, some .int, 0) := rfl
theorem am_mP_116 : am_mP 116 := by unfold am_mP; rw [am_m_116]; exact ⟨am_in3 (i := 176) (by decide +kernel) rfl, am_in1 (i := 1) (by decide +kernel) rfl, by decide +kernel, by decide +kernel, by decide +kernel, by decide +kernel⟩
theorem am_m_117 : am_m 117 = (⟨"ThingsThrown", "enterByLot", "(I)V"⟩, prog_1_method_64_code, 3, none, 0) := rfl
theorem am_mP_117 : am_mP 117 := by unfold am_mP; rw [am_m_117]; exact ⟨am_in3 (i := 183) (by decide +kernel) rfl, am_in1 (i := 1) (by decide +kernel) rfl, by decide +kernel, by decide +kernel, by decide +kernel, by decide +kernel⟩
theorem am_m_118 : am_m 118 = (⟨"ThingsThrown", "enterThrowFrom", "(I)V"⟩, prog_1_method_65_code, 4, none, 0) := rfl
theorem am_mP_118 : am_mP 118 := by unfold am_mP; rw [am_m_118]; exact ⟨am_in3 (i := 187) (by decide +kernel) rfl, am_in1 (i := 1) (by decide +kernel) rfl, by decide +kernel, by decide +kernel, by decide +kernel, by decide +kernel⟩
theorem am_m_119 : am_m 119 = (⟨"ThingsThrown", "asked", "()I"⟩, prog_1_method_33_code, 1, some .int, 0) := rfl
theorem am_mP_119 : am_mP 119 := by unfold am_mP; rw [am_m_119]; exact ⟨am_in3 (i := 191) (by decide +kernel) rfl, am_in1 (i := 1) (by decide +kernel) rfl, by decide +kernel, by decide +kernel, by decide +kernel, by decide +kernel⟩
theorem am_m_120 : am_m 120 = (⟨"ThingsThrown", "upper", "()J"⟩, prog_1_method_34_code, 1, some .long, 0) := rfl
theorem am_mP_120 : am_mP 120 := by unfold am_mP; rw [am_m_120]; exact ⟨am_in3 (i := 195) (by decide +kernel) rfl, am_in1 (i := 1) (by decide +kernel) rfl, by decide +kernel, by decide +kernel, by decide +kernel, by decide +kernel⟩
theorem am_m_121 : am_m 121 = (⟨"ThingsThrown", "lower", "()J"⟩, prog_1_method_35_code, 1, some .long, 0) := rfl
theorem am_mP_121 : am_mP 121 := by unfold am_mP; rw [am_m_121]; exact ⟨am_in3 (i := 199) (by decide +kernel) rfl, am_in1 (i := 1) (by decide +kernel) rfl, by decide +kernel, by decide +kernel, by decide +kernel, by decide +kernel⟩
theorem am_m_122 : am_m 122 = (⟨"ThingsThrown", "count", "(I)I"⟩, prog_1_method_36_code, 2, some .int, 0) := rfl
theorem am_mP_122 : am_mP 122 := by unfold am_mP; rw [am_m_122]; exact ⟨am_in3 (i := 203) (by decide +kernel) rfl, am_in1 (i := 1) (by decide +kernel) rfl, by decide +kernel, by decide +kernel, by decide +kernel, by decide +kernel⟩
theorem am_m_123 : am_m 123 = (⟨"ThingsThrown$Evening", "throwsMade", "()I"⟩, prog_3_method_8_code, 3, some .int, 2) := rfl
theorem am_mP_123 : am_mP 123 := by unfold am_mP; rw [am_m_123]; exact ⟨am_in3 (i := 208) (by decide +kernel) rfl, am_in1 (i := 4) (by decide +kernel) rfl, by decide +kernel, by decide +kernel, by decide +kernel, by decide +kernel⟩
theorem am_m_124 : am_m 124 = (⟨"ThingsThrown$Troupe", "howManyOf", "(I)I"⟩, prog_8_method_11_code, 4, some .int, 6) := rfl
theorem am_mP_124 : am_mP 124 := by unfold am_mP; rw [am_m_124]; exact ⟨am_in3 (i := 212) (by decide +kernel) rfl, am_in1 (i := 3) (by decide +kernel) rfl, by decide +kernel, by decide +kernel, by decide +kernel, by decide +kernel⟩
theorem am_m_125 : am_m 125 = (⟨"ThingsThrown", "sheetsThere", "([LThingsThrown$Sheet;)I"⟩, prog_1_method_59_code, 3, some .int, 0) := rfl
theorem am_mP_125 : am_mP 125 := by unfold am_mP; rw [am_m_125]; exact ⟨am_in3 (i := 216) (by decide +kernel) rfl, am_in1 (i := 1) (by decide +kernel) rfl, by decide +kernel, by decide +kernel, by decide +kernel, by decide +kernel⟩
theorem am_m_126 : am_m 126 = (⟨"ThingsThrown", "skiesKept", "()I"⟩, prog_1_method_60_code, 3, some .int, 0) := rfl
theorem am_mP_126 : am_mP 126 := by unfold am_mP; rw [am_m_126]; exact ⟨am_in3 (i := 220) (by decide +kernel) rfl, am_in1 (i := 1) (by decide +kernel) rfl, by decide +kernel, by decide +kernel, by decide +kernel, by decide +kernel⟩
theorem am_m_127 : am_m 127 = (⟨"ThingsThrown", "finding", "()I"⟩, prog_1_method_37_code, 1, some .int, 0) := rfl
theorem am_mP_127 : am_mP 127 := by unfold am_mP; rw [am_m_127]; exact ⟨am_in3 (i := 224) (by decide +kernel) rfl, am_in1 (i := 1) (by decide +kernel) rfl, by decide +kernel, by decide +kernel, by decide +kernel, by decide +kernel⟩
theorem am_m_128 : am_m 128 = (⟨"ThingsThrown", "findings", "(I)I"⟩, prog_1_method_38_code, 2, some .int, 0) := rfl
theorem am_mP_128 : am_mP 128 := by unfold am_mP; rw [am_m_128]; exact ⟨am_in3 (i := 228) (by decide +kernel) rfl, am_in1 (i := 1) (by decide +kernel) rfl, by decide +kernel, by decide +kernel, by decide +kernel, by decide +kernel⟩
theorem am_m_129 : am_m 129 = (⟨"ThingsThrown", "digest", "()J"⟩, prog_1_method_39_code, 5, some .long, 0) := rfl
theorem am_mP_129 : am_mP 129 := by unfold am_mP; rw [am_m_129]; exact ⟨am_in3 (i := 232) (by decide +kernel) rfl, am_in1 (i := 1) (by decide +kernel) rfl, by decide +kernel, by decide +kernel, by decide +kernel, by decide +kernel⟩
theorem am_m_130 : am_m 130 = (⟨"ThingsThrown", "digestOfSheets", "(J[LThingsThrown$Sheet;)J"⟩, prog_1_method_40_code, 7, some .long, 0) := rfl
theorem am_mP_130 : am_mP 130 := by unfold am_mP; rw [am_m_130]; exact ⟨am_in3 (i := 238) (by decide +kernel) rfl, am_in1 (i := 1) (by decide +kernel) rfl, by decide +kernel, by decide +kernel, by decide +kernel, by decide +kernel⟩
theorem am_m_131 : am_m 131 = (⟨"ThingsThrownModel", "<init>", "()V"⟩, prog_10_method_1_code, 2, none, 7) := rfl
theorem am_mP_131 : am_mP 131 := by unfold am_mP; rw [am_m_131]; exact ⟨am_in4 (i := 3) (by decide +kernel) rfl, am_in1 (i := 8) (by decide +kernel) rfl, by decide +kernel, by decide +kernel, by decide +kernel, by decide +kernel⟩
theorem am_m_132 : am_m 132 = (⟨"ThingsThrownModel", "row", "(II)I"⟩, prog_10_method_9_code, 4, some .int, 7) := rfl
theorem am_mP_132 : am_mP 132 := by unfold am_mP; rw [am_m_132]; exact ⟨am_in4 (i := 61) (by decide +kernel) rfl, am_in1 (i := 8) (by decide +kernel) rfl, by decide +kernel, by decide +kernel, by decide +kernel, by decide +kernel⟩
theorem am_m_133 : am_m 133 = (⟨"ThingsThrownModel", "isRow", "(I)Z"⟩, prog_10_method_8_code, 1, some .boolean, 7) := rfl
theorem am_mP_133 : am_mP 133 := by unfold am_mP; rw [am_m_133]; exact ⟨am_in4 (i := 64) (by decide +kernel) rfl, am_in1 (i := 8) (by decide +kernel) rfl, by decide +kernel, by decide +kernel, by decide +kernel, by decide +kernel⟩
theorem am_m_134 : am_m 134 = (⟨"ThingsThrownModel", "in", "(III)Z"⟩, prog_10_method_3_code, 3, some .boolean, 7) := rfl
theorem am_mP_134 : am_mP 134 := by unfold am_mP; rw [am_m_134]; exact ⟨am_in4 (i := 67) (by decide +kernel) rfl, am_in1 (i := 8) (by decide +kernel) rfl, by decide +kernel, by decide +kernel, by decide +kernel, by decide +kernel⟩
theorem am_m_135 : am_m 135 = (⟨"ThingsThrownModel", "found", "(I)I"⟩, prog_10_method_5_code, 2, some .int, 7) := rfl
theorem am_mP_135 : am_mP 135 := by unfold am_mP; rw [am_m_135]; exact ⟨am_in4 (i := 71) (by decide +kernel) rfl, am_in1 (i := 8) (by decide +kernel) rfl, by decide +kernel, by decide +kernel, by decide +kernel, by decide +kernel⟩
theorem am_m_136 : am_m 136 = (⟨"ThingsThrownModel", "lay", "(III)I"⟩, prog_10_method_11_code, 6, some .int, 7) := rfl
theorem am_mP_136 : am_mP 136 := by unfold am_mP; rw [am_m_136]; exact ⟨am_in4 (i := 75) (by decide +kernel) rfl, am_in1 (i := 8) (by decide +kernel) rfl, by decide +kernel, by decide +kernel, by decide +kernel, by decide +kernel⟩
theorem am_m_137 : am_m 137 = (⟨"ThingsThrownModel", "wrongPlace", "(II)I"⟩, prog_10_method_10_code, 3, some .int, 7) := rfl
theorem am_mP_137 : am_mP 137 := by unfold am_mP; rw [am_m_137]; exact ⟨am_in4 (i := 79) (by decide +kernel) rfl, am_in1 (i := 8) (by decide +kernel) rfl, by decide +kernel, by decide +kernel, by decide +kernel, by decide +kernel⟩
theorem am_m_138 : am_m 138 = (⟨"ThingsThrownModel", "tell", "(I)I"⟩, prog_10_method_6_code, 2, some .int, 7) := rfl
theorem am_mP_138 : am_mP 138 := by unfold am_mP; rw [am_m_138]; exact ⟨am_in4 (i := 83) (by decide +kernel) rfl, am_in1 (i := 8) (by decide +kernel) rfl, by decide +kernel, by decide +kernel, by decide +kernel, by decide +kernel⟩
theorem am_m_139 : am_m 139 = (⟨"ThingsThrownModel", "at", "(II)I"⟩, prog_10_method_12_code, 4, some .int, 7) := rfl
theorem am_mP_139 : am_mP 139 := by unfold am_mP; rw [am_m_139]; exact ⟨am_in4 (i := 87) (by decide +kernel) rfl, am_in1 (i := 8) (by decide +kernel) rfl, by decide +kernel, by decide +kernel, by decide +kernel, by decide +kernel⟩
theorem am_m_140 : am_m 140 = (⟨"ThingsThrownModel", "tear", "(I)I"⟩, prog_10_method_13_code, 2, some .int, 7) := rfl
theorem am_mP_140 : am_mP 140 := by unfold am_mP; rw [am_m_140]; exact ⟨am_in4 (i := 91) (by decide +kernel) rfl, am_in1 (i := 8) (by decide +kernel) rfl, by decide +kernel, by decide +kernel, by decide +kernel, by decide +kernel⟩
theorem am_m_141 : am_m 141 = (⟨"ThingsThrownModel", "copy", "(IIIII)I"⟩, prog_10_method_15_code, 9, some .int, 7) := rfl
theorem am_mP_141 : am_mP 141 := by unfold am_mP; rw [am_m_141]; exact ⟨am_in4 (i := 95) (by decide +kernel) rfl, am_in1 (i := 8) (by decide +kernel) rfl, by decide +kernel, by decide +kernel, by decide +kernel, by decide +kernel⟩
theorem am_m_142 : am_m 142 = (⟨"ThingsThrownModel", "isPart", "(III)Z"⟩, prog_10_method_14_code, 4, some .boolean, 7) := rfl
theorem am_mP_142 : am_mP 142 := by unfold am_mP; rw [am_m_142]; exact ⟨am_in4 (i := 99) (by decide +kernel) rfl, am_in1 (i := 8) (by decide +kernel) rfl, by decide +kernel, by decide +kernel, by decide +kernel, by decide +kernel⟩
theorem am_m_143 : am_m 143 = (⟨"ThingsThrownModel", "mean", "(I)I"⟩, prog_10_method_16_code, 5, some .int, 7) := rfl
theorem am_mP_143 : am_mP 143 := by unfold am_mP; rw [am_m_143]; exact ⟨am_in4 (i := 103) (by decide +kernel) rfl, am_in1 (i := 8) (by decide +kernel) rfl, by decide +kernel, by decide +kernel, by decide +kernel, by decide +kernel⟩
theorem am_m_144 : am_m 144 = (⟨"ThingsThrownModel", "text", "(II)I"⟩, prog_10_method_18_code, 4, some .int, 7) := rfl
theorem am_mP_144 : am_mP 144 := by unfold am_mP; rw [am_m_144]; exact ⟨am_in4 (i := 107) (by decide +kernel) rfl, am_in1 (i := 8) (by decide +kernel) rfl, by decide +kernel, by decide +kernel, by decide +kernel, by decide +kernel⟩
theorem am_m_145 : am_m 145 = (⟨"ThingsThrownModel", "isText", "(I)Z"⟩, prog_10_method_17_code, 1, some .boolean, 7) := rfl
theorem am_mP_145 : am_mP 145 := by unfold am_mP; rw [am_m_145]; exact ⟨am_in4 (i := 110) (by decide +kernel) rfl, am_in1 (i := 8) (by decide +kernel) rfl, by decide +kernel, by decide +kernel, by decide +kernel, by decide +kernel⟩
theorem am_m_146 : am_m 146 = (⟨"ThingsThrownModel", "put", "(III)I"⟩, prog_10_method_19_code, 5, some .int, 7) := rfl
theorem am_mP_146 : am_mP 146 := by unfold am_mP; rw [am_m_146]; exact ⟨am_in4 (i := 114) (by decide +kernel) rfl, am_in1 (i := 8) (by decide +kernel) rfl, by decide +kernel, by decide +kernel, by decide +kernel, by decide +kernel⟩
theorem am_m_147 : am_m 147 = (⟨"ThingsThrownModel", "fault", "(I)I"⟩, prog_10_method_24_code, 2, some .int, 7) := rfl
theorem am_mP_147 : am_mP 147 := by unfold am_mP; rw [am_m_147]; exact ⟨am_in4 (i := 118) (by decide +kernel) rfl, am_in1 (i := 8) (by decide +kernel) rfl, by decide +kernel, by decide +kernel, by decide +kernel, by decide +kernel⟩
theorem am_m_148 : am_m 148 = (⟨"ThingsThrownModel", "readText", "(I)I"⟩, prog_10_method_23_code, 5, some .int, 7) := rfl
theorem am_mP_148 : am_mP 148 := by unfold am_mP; rw [am_m_148]; exact ⟨am_in4 (i := 122) (by decide +kernel) rfl, am_in1 (i := 8) (by decide +kernel) rfl, by decide +kernel, by decide +kernel, by decide +kernel, by decide +kernel⟩
theorem am_m_149 : am_m 149 = (⟨"ThingsThrownModel", "byteAt", "(II)I"⟩, prog_10_method_21_code, 3, some .int, 7) := rfl
theorem am_mP_149 : am_mP 149 := by unfold am_mP; rw [am_m_149]; exact ⟨am_in4 (i := 126) (by decide +kernel) rfl, am_in1 (i := 8) (by decide +kernel) rfl, by decide +kernel, by decide +kernel, by decide +kernel, by decide +kernel⟩
theorem am_m_150 : am_m 150 = (⟨"ThingsThrownModel", "kindOf", "(I)I"⟩, prog_10_method_20_code, 1, some .int, 7) := rfl
theorem am_mP_150 : am_mP 150 := by unfold am_mP; rw [am_m_150]; exact ⟨am_in4 (i := 129) (by decide +kernel) rfl, am_in1 (i := 8) (by decide +kernel) rfl, by decide +kernel, by decide +kernel, by decide +kernel, by decide +kernel⟩
theorem am_m_151 : am_m 151 = (⟨"ThingsThrownModel", "isDueRead", "(I)Z"⟩, prog_10_method_22_code, 4, some .boolean, 7) := rfl
theorem am_mP_151 : am_mP 151 := by unfold am_mP; rw [am_m_151]; exact ⟨am_in4 (i := 133) (by decide +kernel) rfl, am_in1 (i := 8) (by decide +kernel) rfl, by decide +kernel, by decide +kernel, by decide +kernel, by decide +kernel⟩
theorem am_m_152 : am_m 152 = (⟨"ThingsThrownModel", "things", "(I)I"⟩, prog_10_method_25_code, 3, some .int, 7) := rfl
theorem am_mP_152 : am_mP 152 := by unfold am_mP; rw [am_m_152]; exact ⟨am_in4 (i := 137) (by decide +kernel) rfl, am_in1 (i := 8) (by decide +kernel) rfl, by decide +kernel, by decide +kernel, by decide +kernel, by decide +kernel⟩
theorem am_m_153 : am_m 153 = (⟨"ThingsThrownModel", "thing", "(II)I"⟩, prog_10_method_30_code, 3, some .int, 7) := rfl
theorem am_mP_153 : am_mP 153 := by unfold am_mP; rw [am_m_153]; exact ⟨am_in4 (i := 141) (by decide +kernel) rfl, am_in1 (i := 8) (by decide +kernel) rfl, by decide +kernel, by decide +kernel, by decide +kernel, by decide +kernel⟩
theorem am_m_154 : am_m 154 = (⟨"ThingsThrownModel", "isThing", "(I)Z"⟩, prog_10_method_26_code, 2, some .boolean, 7) := rfl
theorem am_mP_154 : am_mP 154 := by unfold am_mP; rw [am_m_154]; exact ⟨am_in4 (i := 145) (by decide +kernel) rfl, am_in1 (i := 8) (by decide +kernel) rfl, by decide +kernel, by decide +kernel, by decide +kernel, by decide +kernel⟩
theorem am_m_155 : am_m 155 = (⟨"ThingsThrownModel", "heightsOf", "(I)I"⟩, prog_10_method_29_code, 3, some .int, 7) := rfl
theorem am_mP_155 : am_mP 155 := by unfold am_mP; rw [am_m_155]; exact ⟨am_in4 (i := 148) (by decide +kernel) rfl, am_in1 (i := 8) (by decide +kernel) rfl, by decide +kernel, by decide +kernel, by decide +kernel, by decide +kernel⟩
theorem am_m_156 : am_m 156 = (⟨"ThingsThrownModel", "landing", "(II)I"⟩, prog_10_method_28_code, 2, some .int, 7) := rfl
theorem am_mP_156 : am_mP 156 := by unfold am_mP; rw [am_m_156]; exact ⟨am_in4 (i := 151) (by decide +kernel) rfl, am_in1 (i := 8) (by decide +kernel) rfl, by decide +kernel, by decide +kernel, by decide +kernel, by decide +kernel⟩
theorem am_m_157 : am_m 157 = (⟨"ThingsThrownModel", "mark", "(II)I"⟩, prog_10_method_34_code, 4, some .int, 7) := rfl
theorem am_mP_157 : am_mP 157 := by unfold am_mP; rw [am_m_157]; exact ⟨am_in4 (i := 155) (by decide +kernel) rfl, am_in1 (i := 8) (by decide +kernel) rfl, by decide +kernel, by decide +kernel, by decide +kernel, by decide +kernel⟩
theorem am_m_158 : am_m 158 = (⟨"ThingsThrownModel", "unlikeBall", "(II)I"⟩, prog_10_method_31_code, 5, some .int, 7) := rfl
theorem am_mP_158 : am_mP 158 := by unfold am_mP; rw [am_m_158]; exact ⟨am_in4 (i := 158) (by decide +kernel) rfl, am_in1 (i := 8) (by decide +kernel) rfl, by decide +kernel, by decide +kernel, by decide +kernel, by decide +kernel⟩
theorem am_m_159 : am_m 159 = (⟨"ThingsThrownModel", "torchesAhead", "(I)I"⟩, prog_10_method_32_code, 4, some .int, 7) := rfl
theorem am_mP_159 : am_mP 159 := by unfold am_mP; rw [am_m_159]; exact ⟨am_in4 (i := 162) (by decide +kernel) rfl, am_in1 (i := 8) (by decide +kernel) rfl, by decide +kernel, by decide +kernel, by decide +kernel, by decide +kernel⟩
theorem am_m_160 : am_m 160 = (⟨"ThingsThrownModel", "thingsBehind", "(I)I"⟩, prog_10_method_33_code, 4, some .int, 7) := rfl
theorem am_mP_160 : am_mP 160 := by unfold am_mP; rw [am_m_160]; exact ⟨am_in4 (i := 166) (by decide +kernel) rfl, am_in1 (i := 8) (by decide +kernel) rfl, by decide +kernel, by decide +kernel, by decide +kernel, by decide +kernel⟩
theorem am_m_161 : am_m 161 = (⟨"ThingsThrownModel", "toss", "(I)I"⟩, prog_10_method_45_code, 2, some .int, 7) := rfl
theorem am_mP_161 : am_mP 161 := by unfold am_mP; rw [am_m_161]; exact ⟨am_in4 (i := 170) (by decide +kernel) rfl, am_in1 (i := 8) (by decide +kernel) rfl, by decide +kernel, by decide +kernel, by decide +kernel, by decide +kernel⟩
theorem am_m_162 : am_m 162 = (⟨"ThingsThrownModel", "isHeight", "(I)Z"⟩, prog_10_method_27_code, 1, some .boolean, 7) := rfl
theorem am_mP_162 : am_mP 162 := by unfold am_mP; rw [am_m_162]; exact ⟨am_in4 (i := 173) (by decide +kernel) rfl, am_in1 (i := 8) (by decide +kernel) rfl, by decide +kernel, by decide +kernel, by decide +kernel, by decide +kernel⟩
theorem am_m_163 : am_m 163 = (⟨"ThingsThrownModel", "mayAt", "(II)Z"⟩, prog_10_method_37_code, 5, some .boolean, 7) := rfl
theorem am_mP_163 : am_mP 163 := by unfold am_mP; rw [am_m_163]; exact ⟨am_in4 (i := 177) (by decide +kernel) rfl, am_in1 (i := 8) (by decide +kernel) rfl, by decide +kernel, by decide +kernel, by decide +kernel, by decide +kernel⟩
theorem am_m_164 : am_m 164 = (⟨"ThingsThrownModel", "dueAt", "(I)I"⟩, prog_10_method_36_code, 3, some .int, 7) := rfl
theorem am_mP_164 : am_mP 164 := by unfold am_mP; rw [am_m_164]; exact ⟨am_in4 (i := 181) (by decide +kernel) rfl, am_in1 (i := 8) (by decide +kernel) rfl, by decide +kernel, by decide +kernel, by decide +kernel, by decide +kernel⟩
theorem am_m_165 : am_m 165 = (⟨"ThingsThrownModel", "skyAt", "(I)I"⟩, prog_10_method_35_code, 4, some .int, 7) := rfl
theorem am_mP_165 : am_mP 165 := by unfold am_mP; rw [am_m_165]; exact ⟨am_in4 (i := 185) (by decide +kernel) rfl, am_in1 (i := 8) (by decide +kernel) rfl, by decide +kernel, by decide +kernel, by decide +kernel, by decide +kernel⟩
theorem am_m_166 : am_m 166 = (⟨"ThingsThrownModel", "has", "(II)Z"⟩, prog_10_method_4_code, 2, some .boolean, 7) := rfl
theorem am_mP_166 : am_mP 166 := by unfold am_mP; rw [am_m_166]; exact ⟨am_in4 (i := 188) (by decide +kernel) rfl, am_in1 (i := 8) (by decide +kernel) rfl, by decide +kernel, by decide +kernel, by decide +kernel, by decide +kernel⟩
theorem am_m_167 : am_m 167 = (⟨"ThingsThrownModel", "remember", "()V"⟩, prog_10_method_44_code, 1, none, 7) := rfl
theorem am_mP_167 : am_mP 167 := by unfold am_mP; rw [am_m_167]; exact ⟨am_in4 (i := 192) (by decide +kernel) rfl, am_in1 (i := 8) (by decide +kernel) rfl, by decide +kernel, by decide +kernel, by decide +kernel, by decide +kernel⟩
theorem am_m_168 : am_m 168 = (⟨"ThingsThrownModel", "copyRow", "(III)V"⟩, prog_10_method_7_code, 5, none, 7) := rfl
theorem am_mP_168 : am_mP 168 := by unfold am_mP; rw [am_m_168]; exact ⟨am_in4 (i := 196) (by decide +kernel) rfl, am_in1 (i := 8) (by decide +kernel) rfl, by decide +kernel, by decide +kernel, by decide +kernel, by decide +kernel⟩
theorem am_m_169 : am_m 169 = (⟨"ThingsThrownModel", "tossAt", "(II)V"⟩, prog_10_method_40_code, 4, none, 7) := rfl
theorem am_mP_169 : am_mP 169 := by unfold am_mP; rw [am_m_169]; exact ⟨am_in4 (i := 200) (by decide +kernel) rfl, am_in1 (i := 8) (by decide +kernel) rfl, by decide +kernel, by decide +kernel, by decide +kernel, by decide +kernel⟩
theorem am_m_170 : am_m 170 = (⟨"ThingsThrownModel", "later", "(I)V"⟩, prog_10_method_39_code, 3, none, 7) := rfl
theorem am_mP_170 : am_mP 170 := by unfold am_mP; rw [am_m_170]; exact ⟨am_in4 (i := 204) (by decide +kernel) rfl, am_in1 (i := 8) (by decide +kernel) rfl, by decide +kernel, by decide +kernel, by decide +kernel, by decide +kernel⟩
theorem am_m_171 : am_m 171 = (⟨"ThingsThrownModel", "rest", "()I"⟩, prog_10_method_46_code, 1, some .int, 7) := rfl
theorem am_mP_171 : am_mP 171 := by unfold am_mP; rw [am_m_171]; exact ⟨am_in4 (i := 208) (by decide +kernel) rfl, am_in1 (i := 8) (by decide +kernel) rfl, by decide +kernel, by decide +kernel, by decide +kernel, by decide +kernel⟩
theorem am_m_172 : am_m 172 = (⟨"ThingsThrownModel", "exchange", "(II)I"⟩, prog_10_method_48_code, 3, some .int, 7) := rfl
theorem am_mP_172 : am_mP 172 := by unfold am_mP; rw [am_m_172]; exact ⟨am_in4 (i := 212) (by decide +kernel) rfl, am_in1 (i := 8) (by decide +kernel) rfl, by decide +kernel, by decide +kernel, by decide +kernel, by decide +kernel⟩
theorem am_m_173 : am_m 173 = (⟨"ThingsThrownModel", "swap", "(II)V"⟩, prog_10_method_47_code, 4, none, 7) := rfl
theorem am_mP_173 : am_mP 173 := by unfold am_mP; rw [am_m_173]; exact ⟨am_in4 (i := 216) (by decide +kernel) rfl, am_in1 (i := 8) (by decide +kernel) rfl, by decide +kernel, by decide +kernel, by decide +kernel, by decide +kernel⟩
theorem am_m_174 : am_m 174 = (⟨"ThingsThrownModel", "undo", "(I)I"⟩, prog_10_method_49_code, 3, some .int, 7) := rfl
theorem am_mP_174 : am_mP 174 := by unfold am_mP; rw [am_m_174]; exact ⟨am_in4 (i := 220) (by decide +kernel) rfl, am_in1 (i := 8) (by decide +kernel) rfl, by decide +kernel, by decide +kernel, by decide +kernel, by decide +kernel⟩
theorem am_m_175 : am_m 175 = (⟨"ThingsThrownModel", "keep", "(I)I"⟩, prog_10_method_50_code, 2, some .int, 7) := rfl
theorem am_mP_175 : am_mP 175 := by unfold am_mP; rw [am_m_175]; exact ⟨am_in4 (i := 224) (by decide +kernel) rfl, am_in1 (i := 8) (by decide +kernel) rfl, by decide +kernel, by decide +kernel, by decide +kernel, by decide +kernel⟩
theorem am_m_176 : am_m 176 = (⟨"ThingsThrownModel", "on", "(I)I"⟩, prog_10_method_51_code, 2, some .int, 7) := rfl
theorem am_mP_176 : am_mP 176 := by unfold am_mP; rw [am_m_176]; exact ⟨am_in4 (i := 228) (by decide +kernel) rfl, am_in1 (i := 8) (by decide +kernel) rfl, by decide +kernel, by decide +kernel, by decide +kernel, by decide +kernel⟩
theorem am_m_177 : am_m 177 = (⟨"ThingsThrownModel", "lands", "(II)I"⟩, prog_10_method_52_code, 3, some .int, 7) := rfl
theorem am_mP_177 : am_mP 177 := by unfold am_mP; rw [am_m_177]; exact ⟨am_in4 (i := 232) (by decide +kernel) rfl, am_in1 (i := 8) (by decide +kernel) rfl, by decide +kernel, by decide +kernel, by decide +kernel, by decide +kernel⟩
theorem am_m_178 : am_m 178 = (⟨"ThingsThrownModel", "may", "()I"⟩, prog_10_method_53_code, 1, some .int, 7) := rfl
theorem am_mP_178 : am_mP 178 := by unfold am_mP; rw [am_m_178]; exact ⟨am_in4 (i := 236) (by decide +kernel) rfl, am_in1 (i := 8) (by decide +kernel) rfl, by decide +kernel, by decide +kernel, by decide +kernel, by decide +kernel⟩
theorem am_m_179 : am_m 179 = (⟨"ThingsThrownModel", "heightsAt", "(I)I"⟩, prog_10_method_38_code, 4, some .int, 7) := rfl
theorem am_mP_179 : am_mP 179 := by unfold am_mP; rw [am_m_179]; exact ⟨am_in5 (i := 0) (by decide +kernel) rfl, am_in1 (i := 8) (by decide +kernel) rfl, by decide +kernel, by decide +kernel, by decide +kernel, by decide +kernel⟩
theorem am_m_180 : am_m 180 = (⟨"ThingsThrownModel", "run", "(I)I"⟩, prog_10_method_55_code, 6, some .int, 7) := rfl
theorem am_mP_180 : am_mP 180 := by unfold am_mP; rw [am_m_180]; exact ⟨am_in5 (i := 4) (by decide +kernel) rfl, am_in1 (i := 8) (by decide +kernel) rfl, by decide +kernel, by decide +kernel, by decide +kernel, by decide +kernel⟩
theorem am_m_181 : am_m 181 = (⟨"ThingsThrownModel", "wrongHeights", "(III)I"⟩, prog_10_method_54_code, 5, some .int, 7) := rfl
theorem am_mP_181 : am_mP 181 := by unfold am_mP; rw [am_m_181]; exact ⟨am_in5 (i := 8) (by decide +kernel) rfl, am_in1 (i := 8) (by decide +kernel) rfl, by decide +kernel, by decide +kernel, by decide +kernel, by decide +kernel⟩
theorem am_m_182 : am_m 182 = (⟨"ThingsThrownModel", "beginTry", "()V"⟩, prog_10_method_43_code, 1, none, 7) := rfl
theorem am_mP_182 : am_mP 182 := by unfold am_mP; rw [am_m_182]; exact ⟨am_in5 (i := 12) (by decide +kernel) rfl, am_in1 (i := 8) (by decide +kernel) rfl, by decide +kernel, by decide +kernel, by decide +kernel, by decide +kernel⟩
theorem am_m_183 : am_m 183 = (⟨"ThingsThrownModel", "restsAt", "(I)V"⟩, prog_10_method_41_code, 2, none, 7) := rfl
theorem am_mP_183 : am_mP 183 := by unfold am_mP; rw [am_m_183]; exact ⟨am_in5 (i := 16) (by decide +kernel) rfl, am_in1 (i := 8) (by decide +kernel) rfl, by decide +kernel, by decide +kernel, by decide +kernel, by decide +kernel⟩
theorem am_m_184 : am_m 184 = (⟨"ThingsThrownModel", "rounds", "(I)I"⟩, prog_10_method_57_code, 6, some .int, 7) := rfl
theorem am_mP_184 : am_mP 184 := by unfold am_mP; rw [am_m_184]; exact ⟨am_in5 (i := 20) (by decide +kernel) rfl, am_in1 (i := 8) (by decide +kernel) rfl, by decide +kernel, by decide +kernel, by decide +kernel, by decide +kernel⟩
theorem am_m_185 : am_m 185 = (⟨"ThingsThrownModel", "isAsNow", "()Z"⟩, prog_10_method_56_code, 3, some .boolean, 7) := rfl
theorem am_mP_185 : am_mP 185 := by unfold am_mP; rw [am_m_185]; exact ⟨am_in5 (i := 24) (by decide +kernel) rfl, am_in1 (i := 8) (by decide +kernel) rfl, by decide +kernel, by decide +kernel, by decide +kernel, by decide +kernel⟩
theorem am_m_186 : am_m 186 = (⟨"ThingsThrownModel", "fewest", "(II)I"⟩, prog_10_method_63_code, 6, some .int, 7) := rfl
theorem am_mP_186 : am_mP 186 := by unfold am_mP; rw [am_m_186]; exact ⟨am_in5 (i := 28) (by decide +kernel) rfl, am_in1 (i := 8) (by decide +kernel) rfl, by decide +kernel, by decide +kernel, by decide +kernel, by decide +kernel⟩
theorem am_m_187 : am_m 187 = (⟨"ThingsThrownModel", "isSky", "(I)Z"⟩, prog_10_method_62_code, 1, some .boolean, 7) := rfl
theorem am_mP_187 : am_mP 187 := by unfold am_mP; rw [am_m_187]; exact ⟨am_in5 (i := 31) (by decide +kernel) rfl, am_in1 (i := 8) (by decide +kernel) rfl, by decide +kernel, by decide +kernel, by decide +kernel, by decide +kernel⟩
theorem am_m_188 : am_m 188 = (⟨"ThingsThrownModel", "power", "(II)I"⟩, prog_10_method_58_code, 4, some .int, 7) := rfl
theorem am_mP_188 : am_mP 188 := by unfold am_mP; rw [am_m_188]; exact ⟨am_in5 (i := 35) (by decide +kernel) rfl, am_in1 (i := 8) (by decide +kernel) rfl, by decide +kernel, by decide +kernel, by decide +kernel, by decide +kernel⟩
theorem am_m_189 : am_m 189 = (⟨"ThingsThrownModel", "canThrow", "(II)Z"⟩, prog_10_method_60_code, 5, some .boolean, 7) := rfl
theorem am_mP_189 : am_mP 189 := by unfold am_mP; rw [am_m_189]; exact ⟨am_in5 (i := 39) (by decide +kernel) rfl, am_in1 (i := 8) (by decide +kernel) rfl, by decide +kernel, by decide +kernel, by decide +kernel, by decide +kernel⟩
theorem am_m_190 : am_m 190 = (⟨"ThingsThrownModel", "figure", "(III)I"⟩, prog_10_method_59_code, 3, some .int, 7) := rfl
theorem am_mP_190 : am_mP 190 := by unfold am_mP; rw [am_m_190]; exact ⟨am_in5 (i := 42) (by decide +kernel) rfl, am_in1 (i := 8) (by decide +kernel) rfl, by decide +kernel, by decide +kernel, by decide +kernel, by decide +kernel⟩
theorem am_m_191 : am_m 191 = (⟨"ThingsThrownModel", "comesTo", "(I)Z"⟩, prog_10_method_61_code, 2, some .boolean, 7) := rfl
theorem am_mP_191 : am_mP 191 := by unfold am_mP; rw [am_m_191]; exact ⟨am_in5 (i := 46) (by decide +kernel) rfl, am_in1 (i := 8) (by decide +kernel) rfl, by decide +kernel, by decide +kernel, by decide +kernel, by decide +kernel⟩
theorem am_m_192 : am_m 192 = (⟨"ThingsThrownModel", "ways", "(I)I"⟩, prog_10_method_64_code, 5, some .int, 7) := rfl
theorem am_mP_192 : am_mP 192 := by unfold am_mP; rw [am_m_192]; exact ⟨am_in5 (i := 50) (by decide +kernel) rfl, am_in1 (i := 8) (by decide +kernel) rfl, by decide +kernel, by decide +kernel, by decide +kernel, by decide +kernel⟩
theorem am_m_193 : am_m 193 = (⟨"ThingsThrownModel", "height", "(I)I"⟩, prog_10_method_65_code, 4, some .int, 7) := rfl
theorem am_mP_193 : am_mP 193 := by unfold am_mP; rw [am_m_193]; exact ⟨am_in5 (i := 54) (by decide +kernel) rfl, am_in1 (i := 8) (by decide +kernel) rfl, by decide +kernel, by decide +kernel, by decide +kernel, by decide +kernel⟩
theorem am_m_194 : am_m 194 = (⟨"ThingsThrownModel", "kinds", "(II)I"⟩, prog_10_method_68_code, 4, some .int, 7) := rfl
theorem am_mP_194 : am_mP 194 := by unfold am_mP; rw [am_m_194]; exact ⟨am_in5 (i := 58) (by decide +kernel) rfl, am_in1 (i := 8) (by decide +kernel) rfl, by decide +kernel, by decide +kernel, by decide +kernel, by decide +kernel⟩
theorem am_m_195 : am_m 195 = (⟨"ThingsThrownModel", "wrongPairs", "(II)I"⟩, prog_10_method_66_code, 4, some .int, 7) := rfl
theorem am_mP_195 : am_mP 195 := by unfold am_mP; rw [am_m_195]; exact ⟨am_in5 (i := 62) (by decide +kernel) rfl, am_in1 (i := 8) (by decide +kernel) rfl, by decide +kernel, by decide +kernel, by decide +kernel, by decide +kernel⟩
theorem am_m_196 : am_m 196 = (⟨"ThingsThrownModel", "kindsBy", "(I)I"⟩, prog_10_method_67_code, 6, some .int, 7) := rfl
theorem am_mP_196 : am_mP 196 := by unfold am_mP; rw [am_m_196]; exact ⟨am_in5 (i := 66) (by decide +kernel) rfl, am_in1 (i := 8) (by decide +kernel) rfl, by decide +kernel, by decide +kernel, by decide +kernel, by decide +kernel⟩
theorem am_m_197 : am_m 197 = (⟨"ThingsThrownModel", "next", "(II)I"⟩, prog_10_method_70_code, 9, some .int, 7) := rfl
theorem am_mP_197 : am_mP 197 := by unfold am_mP; rw [am_m_197]; exact ⟨am_in5 (i := 70) (by decide +kernel) rfl, am_in1 (i := 8) (by decide +kernel) rfl, by decide +kernel, by decide +kernel, by decide +kernel, by decide +kernel⟩
theorem am_m_198 : am_m 198 = (⟨"ThingsThrownModel", "greatestPart", "(II)I"⟩, prog_10_method_69_code, 6, some .int, 7) := rfl
theorem am_mP_198 : am_mP 198 := by unfold am_mP; rw [am_m_198]; exact ⟨am_in5 (i := 73) (by decide +kernel) rfl, am_in1 (i := 8) (by decide +kernel) rfl, by decide +kernel, by decide +kernel, by decide +kernel, by decide +kernel⟩
theorem am_m_199 : am_m 199 = (⟨"ThingsThrownModel", "duel", "(I)I"⟩, prog_10_method_74_code, 4, some .int, 7) := rfl
theorem am_mP_199 : am_mP 199 := by unfold am_mP; rw [am_m_199]; exact ⟨am_in5 (i := 77) (by decide +kernel) rfl, am_in1 (i := 8) (by decide +kernel) rfl, by decide +kernel, by decide +kernel, by decide +kernel, by decide +kernel⟩
theorem am_m_200 : am_m 200 = (⟨"ThingsThrownModel", "base", "(I)I"⟩, prog_10_method_71_code, 1, some .int, 7) := rfl
theorem am_mP_200 : am_mP 200 := by unfold am_mP; rw [am_m_200]; exact ⟨am_in5 (i := 80) (by decide +kernel) rfl, am_in1 (i := 8) (by decide +kernel) rfl, by decide +kernel, by decide +kernel, by decide +kernel, by decide +kernel⟩
theorem am_m_201 : am_m 201 = (⟨"ThingsThrownModel", "worthOf", "(III)I"⟩, prog_10_method_73_code, 4, some .int, 7) := rfl
theorem am_mP_201 : am_mP 201 := by unfold am_mP; rw [am_m_201]; exact ⟨am_in5 (i := 84) (by decide +kernel) rfl, am_in1 (i := 8) (by decide +kernel) rfl, by decide +kernel, by decide +kernel, by decide +kernel, by decide +kernel⟩
theorem am_m_202 : am_m 202 = (⟨"ThingsThrownModel", "sumAt", "(I)I"⟩, prog_10_method_42_code, 4, some .int, 7) := rfl
theorem am_mP_202 : am_mP 202 := by unfold am_mP; rw [am_m_202]; exact ⟨am_in5 (i := 89) (by decide +kernel) rfl, am_in1 (i := 8) (by decide +kernel) rfl, by decide +kernel, by decide +kernel, by decide +kernel, by decide +kernel⟩
theorem am_m_203 : am_m 203 = (⟨"ThingsThrownModel", "bestOf", "(II)I"⟩, prog_10_method_72_code, 7, some .int, 7) := rfl
theorem am_mP_203 : am_mP 203 := by unfold am_mP; rw [am_m_203]; exact ⟨am_in5 (i := 93) (by decide +kernel) rfl, am_in1 (i := 8) (by decide +kernel) rfl, by decide +kernel, by decide +kernel, by decide +kernel, by decide +kernel⟩
theorem am_m_204 : am_m 204 = (⟨"ThingsThrownModel", "odds", "(II)I"⟩, prog_10_method_80_code, 3, some .int, 7) := rfl
theorem am_mP_204 : am_mP 204 := by unfold am_mP; rw [am_m_204]; exact ⟨am_in5 (i := 97) (by decide +kernel) rfl, am_in1 (i := 8) (by decide +kernel) rfl, by decide +kernel, by decide +kernel, by decide +kernel, by decide +kernel⟩
theorem am_m_205 : am_m 205 = (⟨"ThingsThrownModel", "chances", "(IIZ)I"⟩, prog_10_method_79_code, 11, some .int, 7) := rfl
theorem am_mP_205 : am_mP 205 := by unfold am_mP; rw [am_m_205]; exact ⟨am_in5 (i := 101) (by decide +kernel) rfl, am_in1 (i := 8) (by decide +kernel) rfl, by decide +kernel, by decide +kernel, by decide +kernel, by decide +kernel⟩
theorem am_m_206 : am_m 206 = (⟨"ThingsThrownModel", "wrongChance", "(II)I"⟩, prog_10_method_75_code, 3, some .int, 7) := rfl
theorem am_mP_206 : am_mP 206 := by unfold am_mP; rw [am_m_206]; exact ⟨am_in5 (i := 105) (by decide +kernel) rfl, am_in1 (i := 8) (by decide +kernel) rfl, by decide +kernel, by decide +kernel, by decide +kernel, by decide +kernel⟩
theorem am_m_207 : am_m 207 = (⟨"ThingsThrownModel", "madeWith", "(II)I"⟩, prog_10_method_76_code, 5, some .int, 7) := rfl
theorem am_mP_207 : am_mP 207 := by unfold am_mP; rw [am_m_207]; exact ⟨am_in5 (i := 110) (by decide +kernel) rfl, am_in1 (i := 8) (by decide +kernel) rfl, by decide +kernel, by decide +kernel, by decide +kernel, by decide +kernel⟩
theorem am_m_208 : am_m 208 = (⟨"ThingsThrownModel", "chanceOf", "(III)J"⟩, prog_10_method_77_code, 7, some .long, 7) := rfl
theorem am_mP_208 : am_mP 208 := by unfold am_mP; rw [am_m_208]; exact ⟨am_in5 (i := 114) (by decide +kernel) rfl, am_in1 (i := 8) (by decide +kernel) rfl, by decide +kernel, by decide +kernel, by decide +kernel, by decide +kernel⟩
theorem am_m_209 : am_m 209 = (⟨"ThingsThrownModel", "tellPart", "(JJ)V"⟩, prog_10_method_78_code, 11, none, 7) := rfl
theorem am_mP_209 : am_mP 209 := by unfold am_mP; rw [am_m_209]; exact ⟨am_in5 (i := 118) (by decide +kernel) rfl, am_in1 (i := 8) (by decide +kernel) rfl, by decide +kernel, by decide +kernel, by decide +kernel, by decide +kernel⟩
theorem am_m_210 : am_m 210 = (⟨"ThingsThrownModel", "mid", "(II)I"⟩, prog_10_method_81_code, 3, some .int, 7) := rfl
theorem am_mP_210 : am_mP 210 := by unfold am_mP; rw [am_m_210]; exact ⟨am_in5 (i := 122) (by decide +kernel) rfl, am_in1 (i := 8) (by decide +kernel) rfl, by decide +kernel, by decide +kernel, by decide +kernel, by decide +kernel⟩
theorem am_m_211 : am_m 211 = (⟨"ThingsThrownModel", "lots", "(II)I"⟩, prog_10_method_83_code, 6, some .int, 7) := rfl
theorem am_mP_211 : am_mP 211 := by unfold am_mP; rw [am_m_211]; exact ⟨am_in5 (i := 126) (by decide +kernel) rfl, am_in1 (i := 8) (by decide +kernel) rfl, by decide +kernel, by decide +kernel, by decide +kernel, by decide +kernel⟩
theorem am_m_212 : am_m 212 = (⟨"ThingsThrownModel", "doByLot", "(I)V"⟩, prog_10_method_82_code, 5, none, 7) := rfl
theorem am_mP_212 : am_mP 212 := by unfold am_mP; rw [am_m_212]; exact ⟨am_in5 (i := 133) (by decide +kernel) rfl, am_in1 (i := 8) (by decide +kernel) rfl, by decide +kernel, by decide +kernel, by decide +kernel, by decide +kernel⟩
theorem am_m_213 : am_m 213 = (⟨"ThingsThrownModel", "asked", "()I"⟩, prog_10_method_84_code, 1, some .int, 7) := rfl
theorem am_mP_213 : am_mP 213 := by unfold am_mP; rw [am_m_213]; exact ⟨am_in5 (i := 137) (by decide +kernel) rfl, am_in1 (i := 8) (by decide +kernel) rfl, by decide +kernel, by decide +kernel, by decide +kernel, by decide +kernel⟩
theorem am_m_214 : am_m 214 = (⟨"ThingsThrownModel", "upper", "()J"⟩, prog_10_method_85_code, 1, some .long, 7) := rfl
theorem am_mP_214 : am_mP 214 := by unfold am_mP; rw [am_m_214]; exact ⟨am_in5 (i := 141) (by decide +kernel) rfl, am_in1 (i := 8) (by decide +kernel) rfl, by decide +kernel, by decide +kernel, by decide +kernel, by decide +kernel⟩
theorem am_m_215 : am_m 215 = (⟨"ThingsThrownModel", "lower", "()J"⟩, prog_10_method_86_code, 1, some .long, 7) := rfl
theorem am_mP_215 : am_mP 215 := by unfold am_mP; rw [am_m_215]; exact ⟨am_in5 (i := 145) (by decide +kernel) rfl, am_in1 (i := 8) (by decide +kernel) rfl, by decide +kernel, by decide +kernel, by decide +kernel, by decide +kernel⟩
theorem am_m_216 : am_m 216 = (⟨"ThingsThrownModel", "count", "(I)I"⟩, prog_10_method_90_code, 2, some .int, 7) := rfl
theorem am_mP_216 : am_mP 216 := by unfold am_mP; rw [am_m_216]; exact ⟨am_in5 (i := 149) (by decide +kernel) rfl, am_in1 (i := 8) (by decide +kernel) rfl, by decide +kernel, by decide +kernel, by decide +kernel, by decide +kernel⟩
theorem am_m_217 : am_m 217 = (⟨"ThingsThrownModel", "throwsMade", "()I"⟩, prog_10_method_87_code, 3, some .int, 7) := rfl
theorem am_mP_217 : am_mP 217 := by unfold am_mP; rw [am_m_217]; exact ⟨am_in5 (i := 153) (by decide +kernel) rfl, am_in1 (i := 8) (by decide +kernel) rfl, by decide +kernel, by decide +kernel, by decide +kernel, by decide +kernel⟩
theorem am_m_218 : am_m 218 = (⟨"ThingsThrownModel", "ofKinds", "(II)I"⟩, prog_10_method_88_code, 5, some .int, 7) := rfl
theorem am_mP_218 : am_mP 218 := by unfold am_mP; rw [am_m_218]; exact ⟨am_in5 (i := 157) (by decide +kernel) rfl, am_in1 (i := 8) (by decide +kernel) rfl, by decide +kernel, by decide +kernel, by decide +kernel, by decide +kernel⟩
theorem am_m_219 : am_m 219 = (⟨"ThingsThrownModel", "thereAre", "([II)I"⟩, prog_10_method_89_code, 4, some .int, 7) := rfl
theorem am_mP_219 : am_mP 219 := by unfold am_mP; rw [am_m_219]; exact ⟨am_in5 (i := 160) (by decide +kernel) rfl, am_in1 (i := 8) (by decide +kernel) rfl, by decide +kernel, by decide +kernel, by decide +kernel, by decide +kernel⟩
theorem am_m_220 : am_m 220 = (⟨"ThingsThrownModel", "finding", "()I"⟩, prog_10_method_91_code, 1, some .int, 7) := rfl
theorem am_mP_220 : am_mP 220 := by unfold am_mP; rw [am_m_220]; exact ⟨am_in5 (i := 164) (by decide +kernel) rfl, am_in1 (i := 8) (by decide +kernel) rfl, by decide +kernel, by decide +kernel, by decide +kernel, by decide +kernel⟩
theorem am_m_221 : am_m 221 = (⟨"ThingsThrownModel", "findings", "(I)I"⟩, prog_10_method_92_code, 2, some .int, 7) := rfl
theorem am_mP_221 : am_mP 221 := by unfold am_mP; rw [am_m_221]; exact ⟨am_in5 (i := 168) (by decide +kernel) rfl, am_in1 (i := 8) (by decide +kernel) rfl, by decide +kernel, by decide +kernel, by decide +kernel, by decide +kernel⟩
theorem am_m_222 : am_m 222 = (⟨"ThingsThrownModel", "digest", "()J"⟩, prog_10_method_93_code, 5, some .long, 7) := rfl
theorem am_mP_222 : am_mP 222 := by unfold am_mP; rw [am_m_222]; exact ⟨am_in5 (i := 172) (by decide +kernel) rfl, am_in1 (i := 8) (by decide +kernel) rfl, by decide +kernel, by decide +kernel, by decide +kernel, by decide +kernel⟩
def am_flP (q : Nat × Nat × Nat × Nat) : Prop := match am_cl[q.2.2.1]? with
  | some (_, T, N) => q.2.2.2 < N ∧ Cond.fieldLink (am_own q.1) q.2.1 (T q.2.2.2).1 (T q.2.2.2).2.1 (T q.2.2.2).2.2.1 ∈ am_TB
  | none => False
theorem am_flr_0_11 : am_flP (0, 11, 0, 0) := ⟨by decide, am_in1 (i := 149) (by decide +kernel) rfl⟩
theorem am_flr_0_15 : am_flP (0, 15, 0, 1) := ⟨by decide, am_in1 (i := 150) (by decide +kernel) rfl⟩
theorem am_flr_0_21 : am_flP (0, 21, 0, 2) := ⟨by decide, am_in1 (i := 151) (by decide +kernel) rfl⟩
theorem am_flr_0_28 : am_flP (0, 28, 0, 3) := ⟨by decide, am_in1 (i := 152) (by decide +kernel) rfl⟩
theorem am_flr_0_35 : am_flP (0, 35, 0, 4) := ⟨by decide, am_in1 (i := 153) (by decide +kernel) rfl⟩
theorem am_flr_0_39 : am_flP (0, 39, 0, 5) := ⟨by decide, am_in1 (i := 154) (by decide +kernel) rfl⟩
theorem am_flr_0_48 : am_flP (0, 48, 0, 6) := ⟨by decide, am_in1 (i := 155) (by decide +kernel) rfl⟩
theorem am_flr_0_55 : am_flP (0, 55, 0, 7) := ⟨by decide, am_in1 (i := 156) (by decide +kernel) rfl⟩
theorem am_flr_0_59 : am_flP (0, 59, 0, 8) := ⟨by decide, am_in1 (i := 157) (by decide +kernel) rfl⟩
theorem am_flr_0_63 : am_flP (0, 63, 0, 9) := ⟨by decide, am_in1 (i := 158) (by decide +kernel) rfl⟩
theorem am_flr_0_67 : am_flP (0, 67, 0, 10) := ⟨by decide, am_in1 (i := 159) (by decide +kernel) rfl⟩
theorem am_flr_0_70 : am_flP (0, 70, 0, 11) := ⟨by decide, am_in1 (i := 160) (by decide +kernel) rfl⟩
theorem am_flr_0_74 : am_flP (0, 74, 0, 12) := ⟨by decide, am_in1 (i := 161) (by decide +kernel) rfl⟩
theorem am_flr_0_99 : am_flP (0, 99, 4, 0) := ⟨by decide, am_in1 (i := 131) (by decide +kernel) rfl⟩
theorem am_flr_0_108 : am_flP (0, 108, 4, 1) := ⟨by decide, am_in1 (i := 138) (by decide +kernel) rfl⟩
theorem am_flr_0_138 : am_flP (0, 138, 5, 0) := ⟨by decide, am_in1 (i := 48) (by decide +kernel) rfl⟩
theorem am_flr_0_142 : am_flP (0, 142, 5, 1) := ⟨by decide, am_in1 (i := 50) (by decide +kernel) rfl⟩
theorem am_flr_0_148 : am_flP (0, 148, 6, 0) := ⟨by decide, am_in1 (i := 38) (by decide +kernel) rfl⟩
theorem am_flr_0_157 : am_flP (0, 157, 6, 1) := ⟨by decide, am_in1 (i := 40) (by decide +kernel) rfl⟩
theorem am_flr_0_166 : am_flP (0, 166, 2, 0) := ⟨by decide, am_in1 (i := 65) (by decide +kernel) rfl⟩
theorem am_flr_0_204 : am_flP (0, 204, 2, 2) := ⟨by decide, am_in1 (i := 69) (by decide +kernel) rfl⟩
theorem am_flr_0_233 : am_flP (0, 233, 3, 1) := ⟨by decide, am_in1 (i := 99) (by decide +kernel) rfl⟩
theorem am_flr_0_248 : am_flP (0, 248, 3, 2) := ⟨by decide, am_in1 (i := 101) (by decide +kernel) rfl⟩
theorem am_flr_0_259 : am_flP (0, 259, 3, 3) := ⟨by decide, am_in1 (i := 103) (by decide +kernel) rfl⟩
theorem am_flr_0_302 : am_flP (0, 302, 2, 1) := ⟨by decide, am_in1 (i := 67) (by decide +kernel) rfl⟩
theorem am_flr_0_339 : am_flP (0, 339, 2, 3) := ⟨by decide, am_in1 (i := 71) (by decide +kernel) rfl⟩
theorem am_flr_1_9 : am_flP (1, 9, 1, 0) := ⟨by decide, am_in1 (i := 119) (by decide +kernel) rfl⟩
theorem am_flr_1_21 : am_flP (1, 21, 4, 1) := ⟨by decide, am_in1 (i := 137) (by decide +kernel) rfl⟩
theorem am_flr_1_33 : am_flP (1, 33, 4, 0) := ⟨by decide, am_in1 (i := 132) (by decide +kernel) rfl⟩
theorem am_flr_2_9 : am_flP (2, 9, 2, 0) := ⟨by decide, am_in1 (i := 64) (by decide +kernel) rfl⟩
theorem am_flr_2_15 : am_flP (2, 15, 2, 1) := ⟨by decide, am_in1 (i := 66) (by decide +kernel) rfl⟩
theorem am_flr_2_18 : am_flP (2, 18, 2, 2) := ⟨by decide, am_in1 (i := 68) (by decide +kernel) rfl⟩
theorem am_flr_2_21 : am_flP (2, 21, 2, 3) := ⟨by decide, am_in1 (i := 70) (by decide +kernel) rfl⟩
theorem am_flr_2_25 : am_flP (2, 25, 2, 4) := ⟨by decide, am_in1 (i := 72) (by decide +kernel) rfl⟩
theorem am_flr_2_28 : am_flP (2, 28, 2, 5) := ⟨by decide, am_in1 (i := 73) (by decide +kernel) rfl⟩
theorem am_flr_2_31 : am_flP (2, 31, 2, 6) := ⟨by decide, am_in1 (i := 74) (by decide +kernel) rfl⟩
theorem am_flr_3_9 : am_flP (3, 9, 3, 1) := ⟨by decide, am_in1 (i := 98) (by decide +kernel) rfl⟩
theorem am_flr_3_15 : am_flP (3, 15, 3, 2) := ⟨by decide, am_in1 (i := 100) (by decide +kernel) rfl⟩
theorem am_flr_3_19 : am_flP (3, 19, 3, 3) := ⟨by decide, am_in1 (i := 102) (by decide +kernel) rfl⟩
theorem am_flr_3_22 : am_flP (3, 22, 3, 0) := ⟨by decide, am_in1 (i := 97) (by decide +kernel) rfl⟩
theorem am_flr_3_26 : am_flP (3, 26, 4, 1) := ⟨by decide, am_in1 (i := 135) (by decide +kernel) rfl⟩
theorem am_flr_3_37 : am_flP (3, 37, 4, 0) := ⟨by decide, am_in1 (i := 130) (by decide +kernel) rfl⟩
theorem am_flr_3_69 : am_flP (3, 69, 6, 0) := ⟨by decide, am_in1 (i := 37) (by decide +kernel) rfl⟩
theorem am_flr_4_9 : am_flP (4, 9, 4, 1) := ⟨by decide, am_in1 (i := 134) (by decide +kernel) rfl⟩
theorem am_flr_4_13 : am_flP (4, 13, 4, 0) := ⟨by decide, am_in1 (i := 128) (by decide +kernel) rfl⟩
theorem am_flr_5_12 : am_flP (5, 12, 5, 0) := ⟨by decide, am_in1 (i := 47) (by decide +kernel) rfl⟩
theorem am_flr_5_18 : am_flP (5, 18, 5, 1) := ⟨by decide, am_in1 (i := 49) (by decide +kernel) rfl⟩
theorem am_flr_5_25 : am_flP (5, 25, 4, 1) := ⟨by decide, am_in1 (i := 136) (by decide +kernel) rfl⟩
theorem am_flr_5_30 : am_flP (5, 30, 4, 0) := ⟨by decide, am_in1 (i := 129) (by decide +kernel) rfl⟩
theorem am_flr_5_40 : am_flP (5, 40, 6, 0) := ⟨by decide, am_in1 (i := 36) (by decide +kernel) rfl⟩
theorem am_flr_6_9 : am_flP (6, 9, 6, 0) := ⟨by decide, am_in1 (i := 35) (by decide +kernel) rfl⟩
theorem am_flr_6_15 : am_flP (6, 15, 6, 1) := ⟨by decide, am_in1 (i := 39) (by decide +kernel) rfl⟩
theorem am_flr_7_7 : am_flP (7, 7, 7, 0) := ⟨by decide, am_in4 (i := 5) (by decide +kernel) rfl⟩
theorem am_flr_7_13 : am_flP (7, 13, 7, 1) := ⟨by decide, am_in4 (i := 6) (by decide +kernel) rfl⟩
theorem am_flr_7_16 : am_flP (7, 16, 7, 3) := ⟨by decide, am_in4 (i := 8) (by decide +kernel) rfl⟩
theorem am_flr_7_19 : am_flP (7, 19, 7, 4) := ⟨by decide, am_in4 (i := 9) (by decide +kernel) rfl⟩
theorem am_flr_7_22 : am_flP (7, 22, 7, 5) := ⟨by decide, am_in4 (i := 10) (by decide +kernel) rfl⟩
theorem am_flr_7_25 : am_flP (7, 25, 7, 6) := ⟨by decide, am_in4 (i := 11) (by decide +kernel) rfl⟩
theorem am_flr_7_29 : am_flP (7, 29, 7, 7) := ⟨by decide, am_in4 (i := 12) (by decide +kernel) rfl⟩
theorem am_flr_7_32 : am_flP (7, 32, 7, 10) := ⟨by decide, am_in4 (i := 15) (by decide +kernel) rfl⟩
theorem am_flr_7_36 : am_flP (7, 36, 7, 12) := ⟨by decide, am_in4 (i := 17) (by decide +kernel) rfl⟩
theorem am_flr_7_39 : am_flP (7, 39, 7, 13) := ⟨by decide, am_in4 (i := 18) (by decide +kernel) rfl⟩
theorem am_flr_7_42 : am_flP (7, 42, 7, 14) := ⟨by decide, am_in4 (i := 19) (by decide +kernel) rfl⟩
theorem am_flr_7_45 : am_flP (7, 45, 7, 16) := ⟨by decide, am_in4 (i := 21) (by decide +kernel) rfl⟩
theorem am_flr_7_48 : am_flP (7, 48, 7, 11) := ⟨by decide, am_in4 (i := 16) (by decide +kernel) rfl⟩
theorem am_flr_7_52 : am_flP (7, 52, 7, 8) := ⟨by decide, am_in4 (i := 13) (by decide +kernel) rfl⟩
theorem am_flr_7_80 : am_flP (7, 80, 7, 15) := ⟨by decide, am_in4 (i := 20) (by decide +kernel) rfl⟩
theorem am_flr_7_95 : am_flP (7, 95, 7, 2) := ⟨by decide, am_in4 (i := 7) (by decide +kernel) rfl⟩
theorem am_flr_7_183 : am_flP (7, 183, 7, 9) := ⟨by decide, am_in4 (i := 14) (by decide +kernel) rfl⟩
theorem am_flr_8_41 : am_flP (8, 41, 4, 1) := ⟨by decide, am_in1 (i := 139) (by decide +kernel) rfl⟩
theorem am_flr_8_47 : am_flP (8, 47, 4, 0) := ⟨by decide, am_in1 (i := 133) (by decide +kernel) rfl⟩
def am_fl_0 : List (Nat × Nat × Nat × Nat) := [(0, 11, 0, 0), (0, 15, 0, 1), (0, 21, 0, 2), (0, 28, 0, 3), (0, 35, 0, 4), (0, 39, 0, 5), (0, 48, 0, 6), (0, 55, 0, 7), (0, 59, 0, 8), (0, 63, 0, 9), (0, 67, 0, 10), (0, 70, 0, 11), (0, 74, 0, 12), (0, 99, 4, 0), (0, 108, 4, 1), (0, 138, 5, 0), (0, 142, 5, 1), (0, 148, 6, 0), (0, 157, 6, 1), (0, 166, 2, 0)]
theorem am_fl_0_ok : ∀ q ∈ am_fl_0, am_flP q := List.forall_mem_cons.mpr ⟨am_flr_0_11, List.forall_mem_cons.mpr ⟨am_flr_0_15, List.forall_mem_cons.mpr ⟨am_flr_0_21, List.forall_mem_cons.mpr ⟨am_flr_0_28, List.forall_mem_cons.mpr ⟨am_flr_0_35, List.forall_mem_cons.mpr ⟨am_flr_0_39, List.forall_mem_cons.mpr ⟨am_flr_0_48, List.forall_mem_cons.mpr ⟨am_flr_0_55, List.forall_mem_cons.mpr ⟨am_flr_0_59, List.forall_mem_cons.mpr ⟨am_flr_0_63, List.forall_mem_cons.mpr ⟨am_flr_0_67, List.forall_mem_cons.mpr ⟨am_flr_0_70, List.forall_mem_cons.mpr ⟨am_flr_0_74, List.forall_mem_cons.mpr ⟨am_flr_0_99, List.forall_mem_cons.mpr ⟨am_flr_0_108, List.forall_mem_cons.mpr ⟨am_flr_0_138, List.forall_mem_cons.mpr ⟨am_flr_0_142, List.forall_mem_cons.mpr ⟨am_flr_0_148, List.forall_mem_cons.mpr ⟨am_flr_0_157, List.forall_mem_cons.mpr ⟨am_flr_0_166, fun _ h => absurd h List.not_mem_nil⟩⟩⟩⟩⟩⟩⟩⟩⟩⟩⟩⟩⟩⟩⟩⟩⟩⟩⟩⟩
def am_fl_1 : List (Nat × Nat × Nat × Nat) := [(0, 204, 2, 2), (0, 233, 3, 1), (0, 248, 3, 2), (0, 259, 3, 3), (0, 302, 2, 1), (0, 339, 2, 3), (1, 9, 1, 0), (1, 21, 4, 1), (1, 33, 4, 0), (2, 9, 2, 0), (2, 15, 2, 1), (2, 18, 2, 2), (2, 21, 2, 3), (2, 25, 2, 4), (2, 28, 2, 5), (2, 31, 2, 6), (3, 9, 3, 1), (3, 15, 3, 2), (3, 19, 3, 3), (3, 22, 3, 0)]
theorem am_fl_1_ok : ∀ q ∈ am_fl_1, am_flP q := List.forall_mem_cons.mpr ⟨am_flr_0_204, List.forall_mem_cons.mpr ⟨am_flr_0_233, List.forall_mem_cons.mpr ⟨am_flr_0_248, List.forall_mem_cons.mpr ⟨am_flr_0_259, List.forall_mem_cons.mpr ⟨am_flr_0_302, List.forall_mem_cons.mpr ⟨am_flr_0_339, List.forall_mem_cons.mpr ⟨am_flr_1_9, List.forall_mem_cons.mpr ⟨am_flr_1_21, List.forall_mem_cons.mpr ⟨am_flr_1_33, List.forall_mem_cons.mpr ⟨am_flr_2_9, List.forall_mem_cons.mpr ⟨am_flr_2_15, List.forall_mem_cons.mpr ⟨am_flr_2_18, List.forall_mem_cons.mpr ⟨am_flr_2_21, List.forall_mem_cons.mpr ⟨am_flr_2_25, List.forall_mem_cons.mpr ⟨am_flr_2_28, List.forall_mem_cons.mpr ⟨am_flr_2_31, List.forall_mem_cons.mpr ⟨am_flr_3_9, List.forall_mem_cons.mpr ⟨am_flr_3_15, List.forall_mem_cons.mpr ⟨am_flr_3_19, List.forall_mem_cons.mpr ⟨am_flr_3_22, fun _ h => absurd h List.not_mem_nil⟩⟩⟩⟩⟩⟩⟩⟩⟩⟩⟩⟩⟩⟩⟩⟩⟩⟩⟩⟩
def am_fl_2 : List (Nat × Nat × Nat × Nat) := [(3, 26, 4, 1), (3, 37, 4, 0), (3, 69, 6, 0), (4, 9, 4, 1), (4, 13, 4, 0), (5, 12, 5, 0), (5, 18, 5, 1), (5, 25, 4, 1), (5, 30, 4, 0), (5, 40, 6, 0), (6, 9, 6, 0), (6, 15, 6, 1), (7, 7, 7, 0), (7, 13, 7, 1), (7, 16, 7, 3), (7, 19, 7, 4), (7, 22, 7, 5), (7, 25, 7, 6), (7, 29, 7, 7), (7, 32, 7, 10)]
theorem am_fl_2_ok : ∀ q ∈ am_fl_2, am_flP q := List.forall_mem_cons.mpr ⟨am_flr_3_26, List.forall_mem_cons.mpr ⟨am_flr_3_37, List.forall_mem_cons.mpr ⟨am_flr_3_69, List.forall_mem_cons.mpr ⟨am_flr_4_9, List.forall_mem_cons.mpr ⟨am_flr_4_13, List.forall_mem_cons.mpr ⟨am_flr_5_12, List.forall_mem_cons.mpr ⟨am_flr_5_18, List.forall_mem_cons.mpr ⟨am_flr_5_25, List.forall_mem_cons.mpr ⟨am_flr_5_30, List.forall_mem_cons.mpr ⟨am_flr_5_40, List.forall_mem_cons.mpr ⟨am_flr_6_9, List.forall_mem_cons.mpr ⟨am_flr_6_15, List.forall_mem_cons.mpr ⟨am_flr_7_7, List.forall_mem_cons.mpr ⟨am_flr_7_13, List.forall_mem_cons.mpr ⟨am_flr_7_16, List.forall_mem_cons.mpr ⟨am_flr_7_19, List.forall_mem_cons.mpr ⟨am_flr_7_22, List.forall_mem_cons.mpr ⟨am_flr_7_25, List.forall_mem_cons.mpr ⟨am_flr_7_29, List.forall_mem_cons.mpr ⟨am_flr_7_32, fun _ h => absurd h List.not_mem_nil⟩⟩⟩⟩⟩⟩⟩⟩⟩⟩⟩⟩⟩⟩⟩⟩⟩⟩⟩⟩
def am_fl_3 : List (Nat × Nat × Nat × Nat) := [(7, 36, 7, 12), (7, 39, 7, 13), (7, 42, 7, 14), (7, 45, 7, 16), (7, 48, 7, 11), (7, 52, 7, 8), (7, 80, 7, 15), (7, 95, 7, 2), (7, 183, 7, 9), (8, 41, 4, 1), (8, 47, 4, 0)]
theorem am_fl_3_ok : ∀ q ∈ am_fl_3, am_flP q := List.forall_mem_cons.mpr ⟨am_flr_7_36, List.forall_mem_cons.mpr ⟨am_flr_7_39, List.forall_mem_cons.mpr ⟨am_flr_7_42, List.forall_mem_cons.mpr ⟨am_flr_7_45, List.forall_mem_cons.mpr ⟨am_flr_7_48, List.forall_mem_cons.mpr ⟨am_flr_7_52, List.forall_mem_cons.mpr ⟨am_flr_7_80, List.forall_mem_cons.mpr ⟨am_flr_7_95, List.forall_mem_cons.mpr ⟨am_flr_7_183, List.forall_mem_cons.mpr ⟨am_flr_8_41, List.forall_mem_cons.mpr ⟨am_flr_8_47, fun _ h => absurd h List.not_mem_nil⟩⟩⟩⟩⟩⟩⟩⟩⟩⟩⟩
def am_fl : List (Nat × Nat × Nat × Nat) := am_fl_0 ++ (am_fl_1 ++ (am_fl_2 ++ (am_fl_3)))
theorem am_fl_ok : ∀ q ∈ am_fl, am_flP q := fun q h => by unfold am_fl at h; exact (List.mem_append.mp h).elim (am_fl_0_ok q) (fun h => (List.mem_append.mp h).elim (am_fl_1_ok q) (fun h => (List.mem_append.mp h).elim (am_fl_2_ok q) (fun h => am_fl_3_ok q h)))
def am_mkP (q : Nat × Nat × Nat × Nat × Nat × Nat) : Prop := match q with
  | (oc, idx, mi, b, c, kd) => match kd with
    | 0 => am_mP mi ∧ Cond.methodLink (am_own oc) idx (am_m mi).1 ∈ am_TB ∧ Cond.instanceMethod (am_m mi).1 ∈ am_TB ∧ Cond.selects (am_m mi).1.cls (am_m mi).1 (am_m mi).1 ∈ am_TB ∧ (parseMethodDescriptor (am_m mi).1.desc).map (fun d => d.parameters.length + 1) = some b ∧ (am_own c = (am_m mi).1.cls ∧ c < 8)
    | 1 => am_mP mi ∧ Cond.methodLink (am_own oc) idx (am_m mi).1 ∈ am_TB ∧ Cond.static (am_m mi).1 ∈ am_TB ∧ (parseMethodDescriptor (am_m mi).1.desc).map (fun d => d.parameters.length) = some b
    | 2 => am_mP mi ∧ Cond.methodLink (am_own oc) idx (am_m mi).1 ∈ am_TB ∧ Cond.instanceMethod (am_m mi).1 ∈ am_TB ∧ (parseMethodDescriptor (am_m mi).1.desc).map (fun d => d.parameters.length + 1) = some b ∧ (am_m mi).1.name = "<init>" ∧ (am_m mi).2.2.2.1 = none
    | 3 => Cond.methodLink (am_own oc) idx Lib.objectInit ∈ am_TB
    | 4 => Cond.methodLink (am_own oc) idx arraycopyName ∈ am_TB
    | 5 => am_mP mi ∧ Cond.methodLinkNest (am_own oc) idx (am_m mi).1 "ThingsThrown" ∈ am_nest ∧ Cond.instanceMethod (am_m mi).1 ∈ am_TB ∧ (parseMethodDescriptor (am_m mi).1.desc).map (fun d => d.parameters.length + 1) = some b ∧ (am_m mi).1.name = "<init>" ∧ (am_m mi).2.2.2.1 = none
    | 6 => Cond.methodLink (am_own oc) idx Lib.Math.max.name ∈ am_TB
    | _ => Cond.methodLink (am_own oc) idx Lib.Math.min.name ∈ am_TB
theorem am_mkr_0_1 : am_mkP (0, 1, 9000, 0, 0, 3) := am_in1 (i := 18) (by decide +kernel) rfl
theorem am_mkr_0_20 : am_mkP (0, 20, 1, 1, 5, 5) := ⟨am_mP_1, by rw [am_m_1]; decide +kernel, by rw [am_m_1]; exact am_in1 (i := 26) (by decide +kernel) rfl, by rw [am_m_1]; decide +kernel, by rw [am_m_1], by rw [am_m_1]⟩
theorem am_mkr_0_27 : am_mkP (0, 27, 2, 1, 6, 5) := ⟨am_mP_2, by rw [am_m_2]; decide +kernel, by rw [am_m_2]; exact am_in1 (i := 32) (by decide +kernel) rfl, by rw [am_m_2]; decide +kernel, by rw [am_m_2], by rw [am_m_2]⟩
theorem am_mkr_0_34 : am_mkP (0, 34, 3, 1, 2, 5) := ⟨am_mP_3, by rw [am_m_3]; decide +kernel, by rw [am_m_3]; exact am_in1 (i := 61) (by decide +kernel) rfl, by rw [am_m_3]; decide +kernel, by rw [am_m_3], by rw [am_m_3]⟩
theorem am_mkr_0_45 : am_mkP (0, 45, 4, 2, 3, 2) := ⟨am_mP_4, by rw [am_m_4]; exact am_in1 (i := 93) (by decide +kernel) rfl, by rw [am_m_4]; exact am_in1 (i := 94) (by decide +kernel) rfl, by rw [am_m_4]; decide +kernel, by rw [am_m_4], by rw [am_m_4]⟩
theorem am_mkr_0_54 : am_mkP (0, 54, 5, 2, 1, 2) := ⟨am_mP_5, by rw [am_m_5]; exact am_in1 (i := 115) (by decide +kernel) rfl, by rw [am_m_5]; exact am_in1 (i := 116) (by decide +kernel) rfl, by rw [am_m_5]; decide +kernel, by rw [am_m_5], by rw [am_m_5]⟩
theorem am_mkr_0_77 : am_mkP (0, 77, 6, 2, 4, 2) := ⟨am_mP_6, by rw [am_m_6]; exact am_in1 (i := 124) (by decide +kernel) rfl, by rw [am_m_6]; exact am_in1 (i := 125) (by decide +kernel) rfl, by rw [am_m_6]; decide +kernel, by rw [am_m_6], by rw [am_m_6]⟩
theorem am_mkr_0_80 : am_mkP (0, 80, 7, 1, 2, 0) := ⟨am_mP_7, by rw [am_m_7]; exact am_in1 (i := 145) (by decide +kernel) rfl, by rw [am_m_7]; exact am_in1 (i := 146) (by decide +kernel) rfl, by rw [am_m_7]; exact am_in1 (i := 147) (by decide +kernel) rfl, by rw [am_m_7]; decide +kernel, by rw [am_m_7]; decide +kernel⟩
theorem am_mkr_0_83 : am_mkP (0, 83, 9, 1, 0, 1) := ⟨am_mP_9, by rw [am_m_9]; exact am_in1 (i := 193) (by decide +kernel) rfl, by rw [am_m_9]; exact am_in1 (i := 194) (by decide +kernel) rfl, by rw [am_m_9]; decide +kernel⟩
theorem am_mkr_0_87 : am_mkP (0, 87, 10, 2, 0, 0) := ⟨am_mP_10, by rw [am_m_10]; exact am_in1 (i := 196) (by decide +kernel) rfl, by rw [am_m_10]; exact am_in1 (i := 198) (by decide +kernel) rfl, by rw [am_m_10]; exact am_inP (q := (⟨"ThingsThrown", "found", "(I)I"⟩, 13)) (am_inP1 (i := 0) (by decide +kernel)) rfl, by rw [am_m_10]; decide +kernel, by rw [am_m_10]; decide +kernel⟩
theorem am_mkr_0_91 : am_mkP (0, 91, 11, 3, 4, 0) := ⟨am_mP_11, by rw [am_m_11]; exact am_in1 (i := 200) (by decide +kernel) rfl, by rw [am_m_11]; exact am_in1 (i := 201) (by decide +kernel) rfl, by rw [am_m_11]; exact am_in1 (i := 202) (by decide +kernel) rfl, by rw [am_m_11]; decide +kernel, by rw [am_m_11]; decide +kernel⟩
theorem am_mkr_0_95 : am_mkP (0, 95, 13, 3, 0, 0) := ⟨am_mP_13, by rw [am_m_13]; exact am_in1 (i := 214) (by decide +kernel) rfl, by rw [am_m_13]; exact am_in1 (i := 216) (by decide +kernel) rfl, by rw [am_m_13]; exact am_inP (q := (⟨"ThingsThrown", "refusalOfPlace", "(II)I"⟩, 13)) (am_inP1 (i := 1) (by decide +kernel)) rfl, by rw [am_m_13]; decide +kernel, by rw [am_m_13]; decide +kernel⟩
theorem am_mkr_0_102 : am_mkP (0, 102, 17, 2, 0, 0) := ⟨am_mP_17, by rw [am_m_17]; exact am_in1 (i := 230) (by decide +kernel) rfl, by rw [am_m_17]; exact am_in1 (i := 232) (by decide +kernel) rfl, by rw [am_m_17]; exact am_inP (q := (⟨"ThingsThrown", "tell", "(I)I"⟩, 13)) (am_inP1 (i := 3) (by decide +kernel)) rfl, by rw [am_m_17]; decide +kernel, by rw [am_m_17]; decide +kernel⟩
theorem am_mkr_0_105 : am_mkP (0, 105, 14, 2, 0, 0) := ⟨am_mP_14, by rw [am_m_14]; exact am_in1 (i := 218) (by decide +kernel) rfl, by rw [am_m_14]; exact am_in1 (i := 220) (by decide +kernel) rfl, by rw [am_m_14]; exact am_inP (q := (⟨"ThingsThrown", "refusalOfRow", "(I)I"⟩, 13)) (am_inP1 (i := 2) (by decide +kernel)) rfl, by rw [am_m_14]; decide +kernel, by rw [am_m_14]; decide +kernel⟩
theorem am_mkr_0_111 : am_mkP (0, 111, 15, 1, 4, 0) := ⟨am_mP_15, by rw [am_m_15]; exact am_in1 (i := 222) (by decide +kernel) rfl, by rw [am_m_15]; exact am_in1 (i := 223) (by decide +kernel) rfl, by rw [am_m_15]; exact am_in1 (i := 224) (by decide +kernel) rfl, by rw [am_m_15]; decide +kernel, by rw [am_m_15]; decide +kernel⟩
theorem am_mkr_0_115 : am_mkP (0, 115, 21, 3, 4, 0) := ⟨am_mP_21, by rw [am_m_21]; exact am_in2 (i := 6) (by decide +kernel) rfl, by rw [am_m_21]; exact am_in2 (i := 7) (by decide +kernel) rfl, by rw [am_m_21]; exact am_in2 (i := 8) (by decide +kernel) rfl, by rw [am_m_21]; decide +kernel, by rw [am_m_21]; decide +kernel⟩
theorem am_mkr_0_119 : am_mkP (0, 119, 9001, 0, 0, 4) := am_in2 (i := 10) (by decide +kernel) rfl
theorem am_mkr_0_125 : am_mkP (0, 125, 24, 1, 0, 1) := ⟨am_mP_24, by rw [am_m_24]; exact am_in2 (i := 21) (by decide +kernel) rfl, by rw [am_m_24]; exact am_in2 (i := 22) (by decide +kernel) rfl, by rw [am_m_24]; decide +kernel⟩
theorem am_mkr_0_128 : am_mkP (0, 128, 26, 2, 0, 0) := ⟨am_mP_26, by rw [am_m_26]; exact am_in2 (i := 28) (by decide +kernel) rfl, by rw [am_m_26]; exact am_in2 (i := 30) (by decide +kernel) rfl, by rw [am_m_26]; exact am_inP (q := (⟨"ThingsThrown", "refusalOfText", "(I)I"⟩, 13)) (am_inP1 (i := 4) (by decide +kernel)) rfl, by rw [am_m_26]; decide +kernel, by rw [am_m_26]; decide +kernel⟩
theorem am_mkr_0_131 : am_mkP (0, 131, 16, 2, 4, 0) := ⟨am_mP_16, by rw [am_m_16]; exact am_in1 (i := 226) (by decide +kernel) rfl, by rw [am_m_16]; exact am_in1 (i := 227) (by decide +kernel) rfl, by rw [am_m_16]; exact am_in1 (i := 228) (by decide +kernel) rfl, by rw [am_m_16]; decide +kernel, by rw [am_m_16]; decide +kernel⟩
theorem am_mkr_0_134 : am_mkP (0, 134, 28, 2, 5, 0) := ⟨am_mP_28, by rw [am_m_28]; exact am_in2 (i := 36) (by decide +kernel) rfl, by rw [am_m_28]; exact am_in2 (i := 37) (by decide +kernel) rfl, by rw [am_m_28]; exact am_in2 (i := 38) (by decide +kernel) rfl, by rw [am_m_28]; decide +kernel, by rw [am_m_28]; decide +kernel⟩
theorem am_mkr_0_139 : am_mkP (0, 139, 37, 2, 6, 0) := ⟨am_mP_37, by rw [am_m_37]; exact am_in2 (i := 71) (by decide +kernel) rfl, by rw [am_m_37]; exact am_in2 (i := 72) (by decide +kernel) rfl, by rw [am_m_37]; exact am_in2 (i := 73) (by decide +kernel) rfl, by rw [am_m_37]; decide +kernel, by rw [am_m_37]; decide +kernel⟩
theorem am_mkr_0_145 : am_mkP (0, 145, 38, 2, 2, 0) := ⟨am_mP_38, by rw [am_m_38]; exact am_in2 (i := 76) (by decide +kernel) rfl, by rw [am_m_38]; exact am_in2 (i := 77) (by decide +kernel) rfl, by rw [am_m_38]; exact am_in2 (i := 78) (by decide +kernel) rfl, by rw [am_m_38]; decide +kernel, by rw [am_m_38]; decide +kernel⟩
theorem am_mkr_0_149 : am_mkP (0, 149, 40, 2, 0, 0) := ⟨am_mP_40, by rw [am_m_40]; exact am_in2 (i := 84) (by decide +kernel) rfl, by rw [am_m_40]; exact am_in2 (i := 86) (by decide +kernel) rfl, by rw [am_m_40]; exact am_inP (q := (⟨"ThingsThrown", "isThing", "(I)Z"⟩, 13)) (am_inP1 (i := 6) (by decide +kernel)) rfl, by rw [am_m_40]; decide +kernel, by rw [am_m_40]; decide +kernel⟩
theorem am_mkr_0_152 : am_mkP (0, 152, 41, 3, 0, 0) := ⟨am_mP_41, by rw [am_m_41]; exact am_in2 (i := 88) (by decide +kernel) rfl, by rw [am_m_41]; exact am_in2 (i := 90) (by decide +kernel) rfl, by rw [am_m_41]; exact am_inP (q := (⟨"ThingsThrown", "ofThing", "(II)I"⟩, 13)) (am_inP1 (i := 7) (by decide +kernel)) rfl, by rw [am_m_41]; decide +kernel, by rw [am_m_41]; decide +kernel⟩
theorem am_mkr_0_160 : am_mkP (0, 160, 44, 2, 0, 1) := ⟨am_mP_44, by rw [am_m_44]; exact am_in2 (i := 104) (by decide +kernel) rfl, by rw [am_m_44]; exact am_in2 (i := 105) (by decide +kernel) rfl, by rw [am_m_44]; decide +kernel⟩
theorem am_mkr_0_163 : am_mkP (0, 163, 45, 1, 0, 1) := ⟨am_mP_45, by rw [am_m_45]; exact am_in2 (i := 109) (by decide +kernel) rfl, by rw [am_m_45]; exact am_in2 (i := 110) (by decide +kernel) rfl, by rw [am_m_45]; decide +kernel⟩
theorem am_mkr_0_167 : am_mkP (0, 167, 33, 2, 0, 1) := ⟨am_mP_33, by rw [am_m_33]; exact am_in2 (i := 92) (by decide +kernel) rfl, by rw [am_m_33]; exact am_in2 (i := 58) (by decide +kernel) rfl, by rw [am_m_33]; decide +kernel⟩
theorem am_mkr_0_170 : am_mkP (0, 170, 47, 1, 0, 1) := ⟨am_mP_47, by rw [am_m_47]; exact am_in2 (i := 117) (by decide +kernel) rfl, by rw [am_m_47]; exact am_in2 (i := 118) (by decide +kernel) rfl, by rw [am_m_47]; decide +kernel⟩
theorem am_mkr_0_173 : am_mkP (0, 173, 48, 3, 6, 0) := ⟨am_mP_48, by rw [am_m_48]; exact am_in2 (i := 120) (by decide +kernel) rfl, by rw [am_m_48]; exact am_in2 (i := 121) (by decide +kernel) rfl, by rw [am_m_48]; exact am_in2 (i := 122) (by decide +kernel) rfl, by rw [am_m_48]; decide +kernel, by rw [am_m_48]; decide +kernel⟩
theorem am_mkr_0_176 : am_mkP (0, 176, 49, 3, 6, 0) := ⟨am_mP_49, by rw [am_m_49]; exact am_in2 (i := 124) (by decide +kernel) rfl, by rw [am_m_49]; exact am_in2 (i := 125) (by decide +kernel) rfl, by rw [am_m_49]; exact am_in2 (i := 126) (by decide +kernel) rfl, by rw [am_m_49]; decide +kernel, by rw [am_m_49]; decide +kernel⟩
theorem am_mkr_0_179 : am_mkP (0, 179, 51, 1, 0, 1) := ⟨am_mP_51, by rw [am_m_51]; exact am_in2 (i := 132) (by decide +kernel) rfl, by rw [am_m_51]; exact am_in2 (i := 133) (by decide +kernel) rfl, by rw [am_m_51]; decide +kernel⟩
theorem am_mkr_0_182 : am_mkP (0, 182, 52, 3, 6, 0) := ⟨am_mP_52, by rw [am_m_52]; exact am_in2 (i := 135) (by decide +kernel) rfl, by rw [am_m_52]; exact am_in2 (i := 136) (by decide +kernel) rfl, by rw [am_m_52]; exact am_in2 (i := 137) (by decide +kernel) rfl, by rw [am_m_52]; decide +kernel, by rw [am_m_52]; decide +kernel⟩
theorem am_mkr_0_185 : am_mkP (0, 185, 55, 1, 2, 0) := ⟨am_mP_55, by rw [am_m_55]; exact am_in2 (i := 148) (by decide +kernel) rfl, by rw [am_m_55]; exact am_in2 (i := 149) (by decide +kernel) rfl, by rw [am_m_55]; exact am_in2 (i := 150) (by decide +kernel) rfl, by rw [am_m_55]; decide +kernel, by rw [am_m_55]; decide +kernel⟩
theorem am_mkr_0_188 : am_mkP (0, 188, 56, 2, 0, 0) := ⟨am_mP_56, by rw [am_m_56]; exact am_in2 (i := 152) (by decide +kernel) rfl, by rw [am_m_56]; exact am_in2 (i := 154) (by decide +kernel) rfl, by rw [am_m_56]; exact am_inP (q := (⟨"ThingsThrown", "enterThrow", "(I)V"⟩, 13)) (am_inP1 (i := 8) (by decide +kernel)) rfl, by rw [am_m_56]; decide +kernel, by rw [am_m_56]; decide +kernel⟩
theorem am_mkr_0_191 : am_mkP (0, 191, 61, 1, 0, 0) := ⟨am_mP_61, by rw [am_m_61]; exact am_in2 (i := 176) (by decide +kernel) rfl, by rw [am_m_61]; exact am_in2 (i := 178) (by decide +kernel) rfl, by rw [am_m_61]; exact am_inP (q := (⟨"ThingsThrown", "skyNow", "()I"⟩, 13)) (am_inP1 (i := 9) (by decide +kernel)) rfl, by rw [am_m_61]; decide +kernel, by rw [am_m_61]; decide +kernel⟩
theorem am_mkr_0_195 : am_mkP (0, 195, 53, 2, 6, 0) := ⟨am_mP_53, by rw [am_m_53]; exact am_in2 (i := 156) (by decide +kernel) rfl, by rw [am_m_53]; exact am_in2 (i := 140) (by decide +kernel) rfl, by rw [am_m_53]; exact am_in2 (i := 141) (by decide +kernel) rfl, by rw [am_m_53]; decide +kernel, by rw [am_m_53]; decide +kernel⟩
theorem am_mkr_0_198 : am_mkP (0, 198, 63, 1, 0, 0) := ⟨am_mP_63, by rw [am_m_63]; exact am_in2 (i := 185) (by decide +kernel) rfl, by rw [am_m_63]; exact am_in2 (i := 187) (by decide +kernel) rfl, by rw [am_m_63]; exact am_inP (q := (⟨"ThingsThrown", "enterRest", "()V"⟩, 13)) (am_inP1 (i := 10) (by decide +kernel)) rfl, by rw [am_m_63]; decide +kernel, by rw [am_m_63]; decide +kernel⟩
theorem am_mkr_0_201 : am_mkP (0, 201, 65, 3, 0, 0) := ⟨am_mP_65, by rw [am_m_65]; exact am_in2 (i := 194) (by decide +kernel) rfl, by rw [am_m_65]; exact am_in2 (i := 196) (by decide +kernel) rfl, by rw [am_m_65]; exact am_inP (q := (⟨"ThingsThrown", "enterExchange", "(II)V"⟩, 13)) (am_inP1 (i := 11) (by decide +kernel)) rfl, by rw [am_m_65]; decide +kernel, by rw [am_m_65]; decide +kernel⟩
theorem am_mkr_0_207 : am_mkP (0, 207, 68, 2, 2, 0) := ⟨am_mP_68, by rw [am_m_68]; exact am_in2 (i := 205) (by decide +kernel) rfl, by rw [am_m_68]; exact am_in2 (i := 206) (by decide +kernel) rfl, by rw [am_m_68]; exact am_in2 (i := 207) (by decide +kernel) rfl, by rw [am_m_68]; decide +kernel, by rw [am_m_68]; decide +kernel⟩
theorem am_mkr_0_210 : am_mkP (0, 210, 70, 1, 0, 1) := ⟨am_mP_70, by rw [am_m_70]; exact am_in2 (i := 213) (by decide +kernel) rfl, by rw [am_m_70]; exact am_in2 (i := 214) (by decide +kernel) rfl, by rw [am_m_70]; decide +kernel⟩
theorem am_mkr_0_213 : am_mkP (0, 213, 71, 2, 2, 0) := ⟨am_mP_71, by rw [am_m_71]; exact am_in2 (i := 216) (by decide +kernel) rfl, by rw [am_m_71]; exact am_in2 (i := 217) (by decide +kernel) rfl, by rw [am_m_71]; exact am_in2 (i := 218) (by decide +kernel) rfl, by rw [am_m_71]; decide +kernel, by rw [am_m_71]; decide +kernel⟩
theorem am_mkr_0_216 : am_mkP (0, 216, 60, 1, 2, 0) := ⟨am_mP_60, by rw [am_m_60]; exact am_in2 (i := 225) (by decide +kernel) rfl, by rw [am_m_60]; exact am_in2 (i := 172) (by decide +kernel) rfl, by rw [am_m_60]; exact am_in2 (i := 173) (by decide +kernel) rfl, by rw [am_m_60]; decide +kernel, by rw [am_m_60]; decide +kernel⟩
theorem am_mkr_0_219 : am_mkP (0, 219, 46, 2, 0, 1) := ⟨am_mP_46, by rw [am_m_46]; exact am_in2 (i := 230) (by decide +kernel) rfl, by rw [am_m_46]; exact am_in2 (i := 113) (by decide +kernel) rfl, by rw [am_m_46]; decide +kernel⟩
theorem am_mkr_0_222 : am_mkP (0, 222, 75, 2, 6, 0) := ⟨am_mP_75, by rw [am_m_75]; exact am_in2 (i := 235) (by decide +kernel) rfl, by rw [am_m_75]; exact am_in2 (i := 236) (by decide +kernel) rfl, by rw [am_m_75]; exact am_in2 (i := 237) (by decide +kernel) rfl, by rw [am_m_75]; decide +kernel, by rw [am_m_75]; decide +kernel⟩
theorem am_mkr_0_225 : am_mkP (0, 225, 77, 4, 0, 0) := ⟨am_mP_77, by rw [am_m_77]; exact am_in3 (i := 3) (by decide +kernel) rfl, by rw [am_m_77]; exact am_in3 (i := 5) (by decide +kernel) rfl, by rw [am_m_77]; exact am_inP (q := (⟨"ThingsThrown", "refusalOfThrows", "(III)I"⟩, 13)) (am_inP1 (i := 12) (by decide +kernel)) rfl, by rw [am_m_77]; decide +kernel, by rw [am_m_77]; decide +kernel⟩
theorem am_mkr_0_229 : am_mkP (0, 229, 78, 3, 3, 0) := ⟨am_mP_78, by rw [am_m_78]; exact am_in3 (i := 7) (by decide +kernel) rfl, by rw [am_m_78]; exact am_in3 (i := 8) (by decide +kernel) rfl, by rw [am_m_78]; exact am_in3 (i := 9) (by decide +kernel) rfl, by rw [am_m_78]; decide +kernel, by rw [am_m_78]; decide +kernel⟩
theorem am_mkr_0_236 : am_mkP (0, 236, 32, 2, 6, 0) := ⟨am_mP_32, by rw [am_m_32]; exact am_in2 (i := 180) (by decide +kernel) rfl, by rw [am_m_32]; exact am_in2 (i := 54) (by decide +kernel) rfl, by rw [am_m_32]; exact am_in2 (i := 55) (by decide +kernel) rfl, by rw [am_m_32]; decide +kernel, by rw [am_m_32]; decide +kernel⟩
theorem am_mkr_0_239 : am_mkP (0, 239, 82, 3, 3, 0) := ⟨am_mP_82, by rw [am_m_82]; exact am_in3 (i := 26) (by decide +kernel) rfl, by rw [am_m_82]; exact am_in3 (i := 27) (by decide +kernel) rfl, by rw [am_m_82]; exact am_in3 (i := 28) (by decide +kernel) rfl, by rw [am_m_82]; decide +kernel, by rw [am_m_82]; decide +kernel⟩
theorem am_mkr_0_242 : am_mkP (0, 242, 85, 1, 0, 1) := ⟨am_mP_85, by rw [am_m_85]; exact am_in3 (i := 41) (by decide +kernel) rfl, by rw [am_m_85]; exact am_in3 (i := 42) (by decide +kernel) rfl, by rw [am_m_85]; decide +kernel⟩
theorem am_mkr_0_245 : am_mkP (0, 245, 86, 3, 3, 0) := ⟨am_mP_86, by rw [am_m_86]; exact am_in3 (i := 45) (by decide +kernel) rfl, by rw [am_m_86]; exact am_in3 (i := 46) (by decide +kernel) rfl, by rw [am_m_86]; exact am_in3 (i := 47) (by decide +kernel) rfl, by rw [am_m_86]; decide +kernel, by rw [am_m_86]; decide +kernel⟩
theorem am_mkr_0_251 : am_mkP (0, 251, 91, 3, 3, 0) := ⟨am_mP_91, by rw [am_m_91]; exact am_in3 (i := 69) (by decide +kernel) rfl, by rw [am_m_91]; exact am_in3 (i := 70) (by decide +kernel) rfl, by rw [am_m_91]; exact am_in3 (i := 71) (by decide +kernel) rfl, by rw [am_m_91]; decide +kernel, by rw [am_m_91]; decide +kernel⟩
theorem am_mkr_0_255 : am_mkP (0, 255, 93, 3, 0, 0) := ⟨am_mP_93, by rw [am_m_93]; exact am_in3 (i := 77) (by decide +kernel) rfl, by rw [am_m_93]; exact am_in3 (i := 79) (by decide +kernel) rfl, by rw [am_m_93]; exact am_inP (q := (⟨"ThingsThrown", "tellRatio", "(JJ)I"⟩, 13)) (am_inP2 (i := 1) (by decide +kernel)) rfl, by rw [am_m_93]; decide +kernel, by rw [am_m_93]; decide +kernel⟩
theorem am_mkr_0_262 : am_mkP (0, 262, 96, 3, 3, 0) := ⟨am_mP_96, by rw [am_m_96]; exact am_in3 (i := 88) (by decide +kernel) rfl, by rw [am_m_96]; exact am_in3 (i := 89) (by decide +kernel) rfl, by rw [am_m_96]; exact am_in3 (i := 90) (by decide +kernel) rfl, by rw [am_m_96]; decide +kernel, by rw [am_m_96]; decide +kernel⟩
theorem am_mkr_0_265 : am_mkP (0, 265, 98, 3, 0, 0) := ⟨am_mP_98, by rw [am_m_98]; exact am_in3 (i := 96) (by decide +kernel) rfl, by rw [am_m_98]; exact am_in3 (i := 98) (by decide +kernel) rfl, by rw [am_m_98]; exact am_inP (q := (⟨"ThingsThrown", "refusalOfPairs", "(II)I"⟩, 13)) (am_inP2 (i := 2) (by decide +kernel)) rfl, by rw [am_m_98]; decide +kernel, by rw [am_m_98]; decide +kernel⟩
theorem am_mkr_0_268 : am_mkP (0, 268, 99, 1, 0, 1) := ⟨am_mP_99, by rw [am_m_99]; exact am_in3 (i := 100) (by decide +kernel) rfl, by rw [am_m_99]; exact am_in3 (i := 101) (by decide +kernel) rfl, by rw [am_m_99]; decide +kernel⟩
theorem am_mkr_0_271 : am_mkP (0, 271, 102, 1, 0, 1) := ⟨am_mP_102, by rw [am_m_102]; exact am_in3 (i := 110) (by decide +kernel) rfl, by rw [am_m_102]; exact am_in3 (i := 111) (by decide +kernel) rfl, by rw [am_m_102]; decide +kernel⟩
theorem am_mkr_0_274 : am_mkP (0, 274, 103, 2, 0, 1) := ⟨am_mP_103, by rw [am_m_103]; exact am_in3 (i := 119) (by decide +kernel) rfl, by rw [am_m_103]; exact am_in3 (i := 114) (by decide +kernel) rfl, by rw [am_m_103]; decide +kernel⟩
theorem am_mkr_0_277 : am_mkP (0, 277, 106, 3, 3, 0) := ⟨am_mP_106, by rw [am_m_106]; exact am_in3 (i := 124) (by decide +kernel) rfl, by rw [am_m_106]; exact am_in3 (i := 125) (by decide +kernel) rfl, by rw [am_m_106]; exact am_in3 (i := 126) (by decide +kernel) rfl, by rw [am_m_106]; decide +kernel, by rw [am_m_106]; decide +kernel⟩
theorem am_mkr_0_280 : am_mkP (0, 280, 110, 3, 0, 0) := ⟨am_mP_110, by rw [am_m_110]; exact am_in3 (i := 144) (by decide +kernel) rfl, by rw [am_m_110]; exact am_in3 (i := 146) (by decide +kernel) rfl, by rw [am_m_110]; exact am_inP (q := (⟨"ThingsThrown", "refusalOfChances", "(II)I"⟩, 13)) (am_inP2 (i := 4) (by decide +kernel)) rfl, by rw [am_m_110]; decide +kernel, by rw [am_m_110]; decide +kernel⟩
theorem am_mkr_0_283 : am_mkP (0, 283, 111, 4, 1, 0) := ⟨am_mP_111, by rw [am_m_111]; exact am_in3 (i := 148) (by decide +kernel) rfl, by rw [am_m_111]; exact am_in3 (i := 149) (by decide +kernel) rfl, by rw [am_m_111]; exact am_in3 (i := 150) (by decide +kernel) rfl, by rw [am_m_111]; decide +kernel, by rw [am_m_111]; decide +kernel⟩
theorem am_mkr_0_287 : am_mkP (0, 287, 113, 1, 0, 1) := ⟨am_mP_113, by rw [am_m_113]; exact am_in3 (i := 164) (by decide +kernel) rfl, by rw [am_m_113]; exact am_in3 (i := 159) (by decide +kernel) rfl, by rw [am_m_113]; decide +kernel⟩
theorem am_mkr_0_291 : am_mkP (0, 291, 115, 4, 1, 0) := ⟨am_mP_115, by rw [am_m_115]; exact am_in3 (i := 169) (by decide +kernel) rfl, by rw [am_m_115]; exact am_in3 (i := 170) (by decide +kernel) rfl, by rw [am_m_115]; exact am_in3 (i := 171) (by decide +kernel) rfl, by rw [am_m_115]; decide +kernel, by rw [am_m_115]; decide +kernel⟩
theorem am_mkr_0_299 : am_mkP (0, 299, 117, 2, 0, 0) := ⟨am_mP_117, by rw [am_m_117]; exact am_in3 (i := 180) (by decide +kernel) rfl, by rw [am_m_117]; exact am_in3 (i := 182) (by decide +kernel) rfl, by rw [am_m_117]; exact am_inP (q := (⟨"ThingsThrown", "enterByLot", "(I)V"⟩, 13)) (am_inP2 (i := 6) (by decide +kernel)) rfl, by rw [am_m_117]; decide +kernel, by rw [am_m_117]; decide +kernel⟩
theorem am_mkr_0_305 : am_mkP (0, 305, 108, 2, 6, 0) := ⟨am_mP_108, by rw [am_m_108]; exact am_in3 (i := 204) (by decide +kernel) rfl, by rw [am_m_108]; exact am_in3 (i := 133) (by decide +kernel) rfl, by rw [am_m_108]; exact am_in3 (i := 134) (by decide +kernel) rfl, by rw [am_m_108]; decide +kernel, by rw [am_m_108]; decide +kernel⟩
theorem am_mkr_0_308 : am_mkP (0, 308, 123, 1, 2, 0) := ⟨am_mP_123, by rw [am_m_123]; exact am_in3 (i := 205) (by decide +kernel) rfl, by rw [am_m_123]; exact am_in3 (i := 206) (by decide +kernel) rfl, by rw [am_m_123]; exact am_in3 (i := 207) (by decide +kernel) rfl, by rw [am_m_123]; decide +kernel, by rw [am_m_123]; decide +kernel⟩
theorem am_mkr_0_310 : am_mkP (0, 310, 124, 2, 6, 0) := ⟨am_mP_124, by rw [am_m_124]; exact am_in3 (i := 209) (by decide +kernel) rfl, by rw [am_m_124]; exact am_in3 (i := 210) (by decide +kernel) rfl, by rw [am_m_124]; exact am_in3 (i := 211) (by decide +kernel) rfl, by rw [am_m_124]; decide +kernel, by rw [am_m_124]; decide +kernel⟩
theorem am_mkr_0_313 : am_mkP (0, 313, 125, 1, 0, 1) := ⟨am_mP_125, by rw [am_m_125]; exact am_in3 (i := 214) (by decide +kernel) rfl, by rw [am_m_125]; exact am_in3 (i := 215) (by decide +kernel) rfl, by rw [am_m_125]; decide +kernel⟩
theorem am_mkr_0_317 : am_mkP (0, 317, 126, 1, 0, 0) := ⟨am_mP_126, by rw [am_m_126]; exact am_in3 (i := 217) (by decide +kernel) rfl, by rw [am_m_126]; exact am_in3 (i := 219) (by decide +kernel) rfl, by rw [am_m_126]; exact am_inP (q := (⟨"ThingsThrown", "skiesKept", "()I"⟩, 13)) (am_inP2 (i := 8) (by decide +kernel)) rfl, by rw [am_m_126]; decide +kernel, by rw [am_m_126]; decide +kernel⟩
theorem am_mkr_0_324 : am_mkP (0, 324, 122, 2, 0, 0) := ⟨am_mP_122, by rw [am_m_122]; exact am_in3 (i := 235) (by decide +kernel) rfl, by rw [am_m_122]; exact am_in3 (i := 201) (by decide +kernel) rfl, by rw [am_m_122]; exact am_in3 (i := 202) (by decide +kernel) rfl, by rw [am_m_122]; decide +kernel, by rw [am_m_122]; decide +kernel⟩
theorem am_mkr_0_327 : am_mkP (0, 327, 130, 2, 0, 1) := ⟨am_mP_130, by rw [am_m_130]; exact am_in3 (i := 236) (by decide +kernel) rfl, by rw [am_m_130]; exact am_in3 (i := 237) (by decide +kernel) rfl, by rw [am_m_130]; decide +kernel⟩
theorem am_mkr_0_332 : am_mkP (0, 332, 94, 2, 0, 1) := ⟨am_mP_94, by rw [am_m_94]; exact am_in3 (i := 81) (by decide +kernel) rfl, by rw [am_m_94]; exact am_in3 (i := 82) (by decide +kernel) rfl, by rw [am_m_94]; decide +kernel⟩
theorem am_mkr_0_336 : am_mkP (0, 336, 42, 1, 0, 1) := ⟨am_mP_42, by rw [am_m_42]; exact am_in2 (i := 93) (by decide +kernel) rfl, by rw [am_m_42]; exact am_in2 (i := 94) (by decide +kernel) rfl, by rw [am_m_42]; decide +kernel⟩
theorem am_mkr_0_342 : am_mkP (0, 342, 57, 3, 6, 0) := ⟨am_mP_57, by rw [am_m_57]; exact am_in2 (i := 157) (by decide +kernel) rfl, by rw [am_m_57]; exact am_in2 (i := 158) (by decide +kernel) rfl, by rw [am_m_57]; exact am_in2 (i := 159) (by decide +kernel) rfl, by rw [am_m_57]; decide +kernel, by rw [am_m_57]; decide +kernel⟩
theorem am_mkr_0_345 : am_mkP (0, 345, 59, 4, 2, 0) := ⟨am_mP_59, by rw [am_m_59]; exact am_in2 (i := 167) (by decide +kernel) rfl, by rw [am_m_59]; exact am_in2 (i := 168) (by decide +kernel) rfl, by rw [am_m_59]; exact am_in2 (i := 169) (by decide +kernel) rfl, by rw [am_m_59]; decide +kernel, by rw [am_m_59]; decide +kernel⟩
theorem am_mkr_0_349 : am_mkP (0, 349, 58, 3, 6, 0) := ⟨am_mP_58, by rw [am_m_58]; exact am_in2 (i := 189) (by decide +kernel) rfl, by rw [am_m_58]; exact am_in2 (i := 163) (by decide +kernel) rfl, by rw [am_m_58]; exact am_in2 (i := 164) (by decide +kernel) rfl, by rw [am_m_58]; decide +kernel, by rw [am_m_58]; decide +kernel⟩
theorem am_mkr_0_352 : am_mkP (0, 352, 66, 3, 0, 1) := ⟨am_mP_66, by rw [am_m_66]; exact am_in2 (i := 198) (by decide +kernel) rfl, by rw [am_m_66]; exact am_in2 (i := 199) (by decide +kernel) rfl, by rw [am_m_66]; decide +kernel⟩
theorem am_mkr_0_355 : am_mkP (0, 355, 118, 2, 0, 0) := ⟨am_mP_118, by rw [am_m_118]; exact am_in3 (i := 184) (by decide +kernel) rfl, by rw [am_m_118]; exact am_in3 (i := 186) (by decide +kernel) rfl, by rw [am_m_118]; exact am_inP (q := (⟨"ThingsThrown", "enterThrowFrom", "(I)V"⟩, 13)) (am_inP2 (i := 7) (by decide +kernel)) rfl, by rw [am_m_118]; decide +kernel, by rw [am_m_118]; decide +kernel⟩
theorem am_mkr_1_3 : am_mkP (1, 3, 9000, 0, 0, 3) := am_in1 (i := 118) (by decide +kernel) rfl
theorem am_mkr_1_17 : am_mkP (1, 17, 112, 6, 1, 0) := ⟨am_mP_112, by rw [am_m_112]; exact am_in3 (i := 152) (by decide +kernel) rfl, by rw [am_m_112]; exact am_in3 (i := 154) (by decide +kernel) rfl, by rw [am_m_112]; exact am_inP (q := (⟨"ThingsThrown$Chances", "weightFrom", "(ILThingsThrown$Sheet;IIZ)J"⟩, 1)) (am_inP2 (i := 5) (by decide +kernel)) rfl, by rw [am_m_112]; decide +kernel, by rw [am_m_112]; decide +kernel⟩
theorem am_mkr_1_27 : am_mkP (1, 27, 79, 2, 6, 0) := ⟨am_mP_79, by rw [am_m_79]; exact am_in3 (i := 156) (by decide +kernel) rfl, by rw [am_m_79]; exact am_in3 (i := 12) (by decide +kernel) rfl, by rw [am_m_79]; exact am_in3 (i := 13) (by decide +kernel) rfl, by rw [am_m_79]; decide +kernel, by rw [am_m_79]; decide +kernel⟩
theorem am_mkr_1_37 : am_mkP (1, 37, 9003, 0, 0, 7) := am_in3 (i := 157) (by decide +kernel) rfl
theorem am_mkr_1_43 : am_mkP (1, 43, 113, 1, 0, 1) := ⟨am_mP_113, by rw [am_m_113]; exact am_in3 (i := 158) (by decide +kernel) rfl, by rw [am_m_113]; exact am_in3 (i := 159) (by decide +kernel) rfl, by rw [am_m_113]; decide +kernel⟩
theorem am_mkr_1_47 : am_mkP (1, 47, 52, 3, 6, 0) := ⟨am_mP_52, by rw [am_m_52]; exact am_in3 (i := 162) (by decide +kernel) rfl, by rw [am_m_52]; exact am_in2 (i := 136) (by decide +kernel) rfl, by rw [am_m_52]; exact am_in2 (i := 137) (by decide +kernel) rfl, by rw [am_m_52]; decide +kernel, by rw [am_m_52]; decide +kernel⟩
theorem am_mkr_1_51 : am_mkP (1, 51, 57, 3, 6, 0) := ⟨am_mP_57, by rw [am_m_57]; exact am_in3 (i := 163) (by decide +kernel) rfl, by rw [am_m_57]; exact am_in2 (i := 158) (by decide +kernel) rfl, by rw [am_m_57]; exact am_in2 (i := 159) (by decide +kernel) rfl, by rw [am_m_57]; decide +kernel, by rw [am_m_57]; decide +kernel⟩
theorem am_mkr_2_3 : am_mkP (2, 3, 9000, 0, 0, 3) := am_in1 (i := 63) (by decide +kernel) rfl
theorem am_mkr_2_34 : am_mkP (2, 34, 60, 1, 2, 0) := ⟨am_mP_60, by rw [am_m_60]; exact am_in2 (i := 171) (by decide +kernel) rfl, by rw [am_m_60]; exact am_in2 (i := 172) (by decide +kernel) rfl, by rw [am_m_60]; exact am_in2 (i := 173) (by decide +kernel) rfl, by rw [am_m_60]; decide +kernel, by rw [am_m_60]; decide +kernel⟩
theorem am_mkr_2_38 : am_mkP (2, 38, 55, 1, 2, 0) := ⟨am_mP_55, by rw [am_m_55]; exact am_in2 (i := 175) (by decide +kernel) rfl, by rw [am_m_55]; exact am_in2 (i := 149) (by decide +kernel) rfl, by rw [am_m_55]; exact am_in2 (i := 150) (by decide +kernel) rfl, by rw [am_m_55]; decide +kernel, by rw [am_m_55]; decide +kernel⟩
theorem am_mkr_2_41 : am_mkP (2, 41, 9001, 0, 0, 4) := am_in2 (i := 220) (by decide +kernel) rfl
theorem am_mkr_3_3 : am_mkP (3, 3, 9000, 0, 0, 3) := am_in1 (i := 96) (by decide +kernel) rfl
theorem am_mkr_3_31 : am_mkP (3, 31, 79, 2, 6, 0) := ⟨am_mP_79, by rw [am_m_79]; exact am_in3 (i := 11) (by decide +kernel) rfl, by rw [am_m_79]; exact am_in3 (i := 12) (by decide +kernel) rfl, by rw [am_m_79]; exact am_in3 (i := 13) (by decide +kernel) rfl, by rw [am_m_79]; decide +kernel, by rw [am_m_79]; decide +kernel⟩
theorem am_mkr_3_40 : am_mkP (3, 40, 52, 3, 6, 0) := ⟨am_mP_52, by rw [am_m_52]; exact am_in3 (i := 20) (by decide +kernel) rfl, by rw [am_m_52]; exact am_in2 (i := 136) (by decide +kernel) rfl, by rw [am_m_52]; exact am_in2 (i := 137) (by decide +kernel) rfl, by rw [am_m_52]; decide +kernel, by rw [am_m_52]; decide +kernel⟩
theorem am_mkr_3_44 : am_mkP (3, 44, 57, 3, 6, 0) := ⟨am_mP_57, by rw [am_m_57]; exact am_in3 (i := 21) (by decide +kernel) rfl, by rw [am_m_57]; exact am_in2 (i := 158) (by decide +kernel) rfl, by rw [am_m_57]; exact am_in2 (i := 159) (by decide +kernel) rfl, by rw [am_m_57]; decide +kernel, by rw [am_m_57]; decide +kernel⟩
theorem am_mkr_3_48 : am_mkP (3, 48, 78, 3, 3, 0) := ⟨am_mP_78, by rw [am_m_78]; exact am_in3 (i := 30) (by decide +kernel) rfl, by rw [am_m_78]; exact am_in3 (i := 8) (by decide +kernel) rfl, by rw [am_m_78]; exact am_in3 (i := 9) (by decide +kernel) rfl, by rw [am_m_78]; decide +kernel, by rw [am_m_78]; decide +kernel⟩
theorem am_mkr_3_52 : am_mkP (3, 52, 83, 3, 3, 0) := ⟨am_mP_83, by rw [am_m_83]; exact am_in3 (i := 31) (by decide +kernel) rfl, by rw [am_m_83]; exact am_in3 (i := 33) (by decide +kernel) rfl, by rw [am_m_83]; exact am_inP (q := (⟨"ThingsThrown$Outlook", "comesToDues", "(II)Z"⟩, 4)) (am_inP1 (i := 13) (by decide +kernel)) rfl, by rw [am_m_83]; decide +kernel, by rw [am_m_83]; decide +kernel⟩
theorem am_mkr_3_55 : am_mkP (3, 55, 80, 2, 6, 0) := ⟨am_mP_80, by rw [am_m_80]; exact am_in3 (i := 35) (by decide +kernel) rfl, by rw [am_m_80]; exact am_in3 (i := 16) (by decide +kernel) rfl, by rw [am_m_80]; exact am_in3 (i := 17) (by decide +kernel) rfl, by rw [am_m_80]; decide +kernel, by rw [am_m_80]; decide +kernel⟩
theorem am_mkr_3_58 : am_mkP (3, 58, 58, 3, 6, 0) := ⟨am_mP_58, by rw [am_m_58]; exact am_in3 (i := 36) (by decide +kernel) rfl, by rw [am_m_58]; exact am_in2 (i := 163) (by decide +kernel) rfl, by rw [am_m_58]; exact am_in2 (i := 164) (by decide +kernel) rfl, by rw [am_m_58]; decide +kernel, by rw [am_m_58]; decide +kernel⟩
theorem am_mkr_3_61 : am_mkP (3, 61, 32, 2, 6, 0) := ⟨am_mP_32, by rw [am_m_32]; exact am_in3 (i := 63) (by decide +kernel) rfl, by rw [am_m_32]; exact am_in2 (i := 54) (by decide +kernel) rfl, by rw [am_m_32]; exact am_in2 (i := 55) (by decide +kernel) rfl, by rw [am_m_32]; decide +kernel, by rw [am_m_32]; decide +kernel⟩
theorem am_mkr_3_64 : am_mkP (3, 64, 87, 1, 0, 1) := ⟨am_mP_87, by rw [am_m_87]; exact am_in3 (i := 49) (by decide +kernel) rfl, by rw [am_m_87]; exact am_in3 (i := 50) (by decide +kernel) rfl, by rw [am_m_87]; decide +kernel⟩
theorem am_mkr_3_70 : am_mkP (3, 70, 88, 5, 3, 0) := ⟨am_mP_88, by rw [am_m_88]; exact am_in3 (i := 55) (by decide +kernel) rfl, by rw [am_m_88]; exact am_in3 (i := 57) (by decide +kernel) rfl, by rw [am_m_88]; exact am_inP (q := (⟨"ThingsThrown$Outlook", "leadsTo", "(IIII)Z"⟩, 4)) (am_inP1 (i := 14) (by decide +kernel)) rfl, by rw [am_m_88]; decide +kernel, by rw [am_m_88]; decide +kernel⟩
theorem am_mkr_3_74 : am_mkP (3, 74, 89, 3, 3, 0) := ⟨am_mP_89, by rw [am_m_89]; exact am_in3 (i := 59) (by decide +kernel) rfl, by rw [am_m_89]; exact am_in3 (i := 61) (by decide +kernel) rfl, by rw [am_m_89]; exact am_inP (q := (⟨"ThingsThrown$Outlook", "comesToSky", "(II)Z"⟩, 4)) (am_inP1 (i := 15) (by decide +kernel)) rfl, by rw [am_m_89]; decide +kernel, by rw [am_m_89]; decide +kernel⟩
theorem am_mkr_3_77 : am_mkP (3, 77, 75, 2, 6, 0) := ⟨am_mP_75, by rw [am_m_75]; exact am_in3 (i := 64) (by decide +kernel) rfl, by rw [am_m_75]; exact am_in2 (i := 236) (by decide +kernel) rfl, by rw [am_m_75]; exact am_in2 (i := 237) (by decide +kernel) rfl, by rw [am_m_75]; decide +kernel, by rw [am_m_75]; decide +kernel⟩
theorem am_mkr_3_80 : am_mkP (3, 80, 92, 4, 3, 0) := ⟨am_mP_92, by rw [am_m_92]; exact am_in3 (i := 73) (by decide +kernel) rfl, by rw [am_m_92]; exact am_in3 (i := 75) (by decide +kernel) rfl, by rw [am_m_92]; exact am_inP (q := (⟨"ThingsThrown$Outlook", "waysTo", "(III)J"⟩, 4)) (am_inP2 (i := 0) (by decide +kernel)) rfl, by rw [am_m_92]; decide +kernel, by rw [am_m_92]; decide +kernel⟩
theorem am_mkr_3_84 : am_mkP (3, 84, 107, 3, 3, 0) := ⟨am_mP_107, by rw [am_m_107]; exact am_in3 (i := 128) (by decide +kernel) rfl, by rw [am_m_107]; exact am_in3 (i := 130) (by decide +kernel) rfl, by rw [am_m_107]; exact am_inP (q := (⟨"ThingsThrown$Outlook", "bestFrom", "(II)I"⟩, 4)) (am_inP2 (i := 3) (by decide +kernel)) rfl, by rw [am_m_107]; decide +kernel, by rw [am_m_107]; decide +kernel⟩
theorem am_mkr_3_87 : am_mkP (3, 87, 108, 2, 6, 0) := ⟨am_mP_108, by rw [am_m_108]; exact am_in3 (i := 132) (by decide +kernel) rfl, by rw [am_m_108]; exact am_in3 (i := 133) (by decide +kernel) rfl, by rw [am_m_108]; exact am_in3 (i := 134) (by decide +kernel) rfl, by rw [am_m_108]; decide +kernel, by rw [am_m_108]; decide +kernel⟩
theorem am_mkr_3_92 : am_mkP (3, 92, 9002, 0, 0, 6) := am_in3 (i := 138) (by decide +kernel) rfl
theorem am_mkr_3_97 : am_mkP (3, 97, 9003, 0, 0, 7) := am_in3 (i := 139) (by decide +kernel) rfl
theorem am_mkr_4_1 : am_mkP (4, 1, 9000, 0, 0, 3) := am_in1 (i := 127) (by decide +kernel) rfl
theorem am_mkr_4_17 : am_mkP (4, 17, 9003, 0, 0, 7) := am_in1 (i := 204) (by decide +kernel) rfl
theorem am_mkr_4_23 : am_mkP (4, 23, 9002, 0, 0, 6) := am_in1 (i := 207) (by decide +kernel) rfl
theorem am_mkr_5_3 : am_mkP (5, 3, 9000, 0, 0, 3) := am_in1 (i := 28) (by decide +kernel) rfl
theorem am_mkr_5_11 : am_mkP (5, 11, 2, 1, 6, 5) := ⟨am_mP_2, by rw [am_m_2]; decide +kernel, by rw [am_m_2]; exact am_in1 (i := 32) (by decide +kernel) rfl, by rw [am_m_2]; decide +kernel, by rw [am_m_2], by rw [am_m_2]⟩
theorem am_mkr_5_22 : am_mkP (5, 22, 29, 1, 6, 0) := ⟨am_mP_29, by rw [am_m_29]; exact am_in2 (i := 40) (by decide +kernel) rfl, by rw [am_m_29]; exact am_in2 (i := 41) (by decide +kernel) rfl, by rw [am_m_29]; exact am_in2 (i := 42) (by decide +kernel) rfl, by rw [am_m_29]; decide +kernel, by rw [am_m_29]; decide +kernel⟩
theorem am_mkr_5_34 : am_mkP (5, 34, 30, 1, 0, 1) := ⟨am_mP_30, by rw [am_m_30]; exact am_in2 (i := 44) (by decide +kernel) rfl, by rw [am_m_30]; exact am_in2 (i := 45) (by decide +kernel) rfl, by rw [am_m_30]; decide +kernel⟩
theorem am_mkr_5_41 : am_mkP (5, 41, 31, 2, 5, 0) := ⟨am_mP_31, by rw [am_m_31]; exact am_in2 (i := 49) (by decide +kernel) rfl, by rw [am_m_31]; exact am_in2 (i := 51) (by decide +kernel) rfl, by rw [am_m_31]; exact am_inP (q := (⟨"ThingsThrown$Telling", "isFreeFigure", "(I)Z"⟩, 2)) (am_inP1 (i := 5) (by decide +kernel)) rfl, by rw [am_m_31]; decide +kernel, by rw [am_m_31]; decide +kernel⟩
theorem am_mkr_5_45 : am_mkP (5, 45, 34, 3, 0, 1) := ⟨am_mP_34, by rw [am_m_34]; exact am_in2 (i := 60) (by decide +kernel) rfl, by rw [am_m_34]; exact am_in2 (i := 61) (by decide +kernel) rfl, by rw [am_m_34]; decide +kernel⟩
theorem am_mkr_5_49 : am_mkP (5, 49, 35, 2, 6, 0) := ⟨am_mP_35, by rw [am_m_35]; exact am_in2 (i := 63) (by decide +kernel) rfl, by rw [am_m_35]; exact am_in2 (i := 64) (by decide +kernel) rfl, by rw [am_m_35]; exact am_in2 (i := 65) (by decide +kernel) rfl, by rw [am_m_35]; decide +kernel, by rw [am_m_35]; decide +kernel⟩
theorem am_mkr_5_53 : am_mkP (5, 53, 32, 2, 6, 0) := ⟨am_mP_32, by rw [am_m_32]; exact am_in2 (i := 53) (by decide +kernel) rfl, by rw [am_m_32]; exact am_in2 (i := 54) (by decide +kernel) rfl, by rw [am_m_32]; exact am_in2 (i := 55) (by decide +kernel) rfl, by rw [am_m_32]; decide +kernel, by rw [am_m_32]; decide +kernel⟩
theorem am_mkr_6_3 : am_mkP (6, 3, 9000, 0, 0, 3) := am_in1 (i := 34) (by decide +kernel) rfl
theorem am_mkr_6_19 : am_mkP (6, 19, 33, 2, 0, 1) := ⟨am_mP_33, by rw [am_m_33]; exact am_in2 (i := 57) (by decide +kernel) rfl, by rw [am_m_33]; exact am_in2 (i := 58) (by decide +kernel) rfl, by rw [am_m_33]; decide +kernel⟩
theorem am_mkr_6_23 : am_mkP (6, 23, 34, 3, 0, 1) := ⟨am_mP_34, by rw [am_m_34]; exact am_in2 (i := 161) (by decide +kernel) rfl, by rw [am_m_34]; exact am_in2 (i := 61) (by decide +kernel) rfl, by rw [am_m_34]; decide +kernel⟩
theorem am_mkr_6_27 : am_mkP (6, 27, 9001, 0, 0, 4) := am_in2 (i := 75) (by decide +kernel) rfl
theorem am_mkr_6_33 : am_mkP (6, 33, 44, 2, 0, 1) := ⟨am_mP_44, by rw [am_m_44]; exact am_in3 (i := 213) (by decide +kernel) rfl, by rw [am_m_44]; exact am_in2 (i := 105) (by decide +kernel) rfl, by rw [am_m_44]; decide +kernel⟩
theorem am_mkr_6_39 : am_mkP (6, 39, 9003, 0, 0, 7) := am_in3 (i := 19) (by decide +kernel) rfl
theorem am_mkr_6_45 : am_mkP (6, 45, 80, 2, 6, 0) := ⟨am_mP_80, by rw [am_m_80]; exact am_in3 (i := 15) (by decide +kernel) rfl, by rw [am_m_80]; exact am_in3 (i := 16) (by decide +kernel) rfl, by rw [am_m_80]; exact am_in3 (i := 17) (by decide +kernel) rfl, by rw [am_m_80]; decide +kernel, by rw [am_m_80]; decide +kernel⟩
theorem am_mkr_6_49 : am_mkP (6, 49, 58, 3, 6, 0) := ⟨am_mP_58, by rw [am_m_58]; exact am_in2 (i := 162) (by decide +kernel) rfl, by rw [am_m_58]; exact am_in2 (i := 163) (by decide +kernel) rfl, by rw [am_m_58]; exact am_in2 (i := 164) (by decide +kernel) rfl, by rw [am_m_58]; decide +kernel, by rw [am_m_58]; decide +kernel⟩
theorem am_mkr_6_52 : am_mkP (6, 52, 53, 2, 6, 0) := ⟨am_mP_53, by rw [am_m_53]; exact am_in2 (i := 139) (by decide +kernel) rfl, by rw [am_m_53]; exact am_in2 (i := 140) (by decide +kernel) rfl, by rw [am_m_53]; exact am_in2 (i := 141) (by decide +kernel) rfl, by rw [am_m_53]; decide +kernel, by rw [am_m_53]; decide +kernel⟩
theorem am_mkr_6_55 : am_mkP (6, 55, 32, 2, 6, 0) := ⟨am_mP_32, by rw [am_m_32]; exact am_in2 (i := 143) (by decide +kernel) rfl, by rw [am_m_32]; exact am_in2 (i := 54) (by decide +kernel) rfl, by rw [am_m_32]; exact am_in2 (i := 55) (by decide +kernel) rfl, by rw [am_m_32]; decide +kernel, by rw [am_m_32]; decide +kernel⟩
theorem am_mkr_6_58 : am_mkP (6, 58, 46, 2, 0, 1) := ⟨am_mP_46, by rw [am_m_46]; exact am_in2 (i := 144) (by decide +kernel) rfl, by rw [am_m_46]; exact am_in2 (i := 113) (by decide +kernel) rfl, by rw [am_m_46]; decide +kernel⟩
theorem am_mkr_6_61 : am_mkP (6, 61, 54, 2, 0, 1) := ⟨am_mP_54, by rw [am_m_54]; exact am_in2 (i := 145) (by decide +kernel) rfl, by rw [am_m_54]; exact am_in2 (i := 146) (by decide +kernel) rfl, by rw [am_m_54]; decide +kernel⟩
theorem am_mkr_7_1 : am_mkP (7, 1, 9000, 0, 0, 3) := am_in4 (i := 4) (by decide +kernel) rfl
theorem am_mkr_7_55 : am_mkP (7, 55, 134, 3, 0, 1) := ⟨am_mP_134, by rw [am_m_134]; exact am_in4 (i := 65) (by decide +kernel) rfl, by rw [am_m_134]; exact am_in4 (i := 66) (by decide +kernel) rfl, by rw [am_m_134]; decide +kernel⟩
theorem am_mkr_7_59 : am_mkP (7, 59, 133, 1, 0, 1) := ⟨am_mP_133, by rw [am_m_133]; exact am_in4 (i := 62) (by decide +kernel) rfl, by rw [am_m_133]; exact am_in4 (i := 63) (by decide +kernel) rfl, by rw [am_m_133]; decide +kernel⟩
theorem am_mkr_7_63 : am_mkP (7, 63, 135, 2, 7, 0) := ⟨am_mP_135, by rw [am_m_135]; exact am_in4 (i := 68) (by decide +kernel) rfl, by rw [am_m_135]; exact am_in4 (i := 70) (by decide +kernel) rfl, by rw [am_m_135]; exact am_inP (q := (⟨"ThingsThrownModel", "found", "(I)I"⟩, 17)) (am_inP2 (i := 9) (by decide +kernel)) rfl, by rw [am_m_135]; decide +kernel, by rw [am_m_135]; decide +kernel⟩
theorem am_mkr_7_67 : am_mkP (7, 67, 137, 3, 7, 0) := ⟨am_mP_137, by rw [am_m_137]; exact am_in4 (i := 76) (by decide +kernel) rfl, by rw [am_m_137]; exact am_in4 (i := 78) (by decide +kernel) rfl, by rw [am_m_137]; exact am_inP (q := (⟨"ThingsThrownModel", "wrongPlace", "(II)I"⟩, 17)) (am_inP2 (i := 10) (by decide +kernel)) rfl, by rw [am_m_137]; decide +kernel, by rw [am_m_137]; decide +kernel⟩
theorem am_mkr_7_71 : am_mkP (7, 71, 138, 2, 7, 0) := ⟨am_mP_138, by rw [am_m_138]; exact am_in4 (i := 80) (by decide +kernel) rfl, by rw [am_m_138]; exact am_in4 (i := 82) (by decide +kernel) rfl, by rw [am_m_138]; exact am_inP (q := (⟨"ThingsThrownModel", "tell", "(I)I"⟩, 17)) (am_inP2 (i := 11) (by decide +kernel)) rfl, by rw [am_m_138]; decide +kernel, by rw [am_m_138]; decide +kernel⟩
theorem am_mkr_7_74 : am_mkP (7, 74, 142, 4, 7, 0) := ⟨am_mP_142, by rw [am_m_142]; exact am_in4 (i := 96) (by decide +kernel) rfl, by rw [am_m_142]; exact am_in4 (i := 98) (by decide +kernel) rfl, by rw [am_m_142]; exact am_inP (q := (⟨"ThingsThrownModel", "isPart", "(III)Z"⟩, 17)) (am_inP2 (i := 12) (by decide +kernel)) rfl, by rw [am_m_142]; decide +kernel, by rw [am_m_142]; decide +kernel⟩
theorem am_mkr_7_77 : am_mkP (7, 77, 145, 1, 0, 1) := ⟨am_mP_145, by rw [am_m_145]; exact am_in4 (i := 108) (by decide +kernel) rfl, by rw [am_m_145]; exact am_in4 (i := 109) (by decide +kernel) rfl, by rw [am_m_145]; decide +kernel⟩
theorem am_mkr_7_83 : am_mkP (7, 83, 149, 3, 7, 0) := ⟨am_mP_149, by rw [am_m_149]; exact am_in4 (i := 123) (by decide +kernel) rfl, by rw [am_m_149]; exact am_in4 (i := 125) (by decide +kernel) rfl, by rw [am_m_149]; exact am_inP (q := (⟨"ThingsThrownModel", "byteAt", "(II)I"⟩, 17)) (am_inP2 (i := 14) (by decide +kernel)) rfl, by rw [am_m_149]; decide +kernel, by rw [am_m_149]; decide +kernel⟩
theorem am_mkr_7_86 : am_mkP (7, 86, 150, 1, 0, 1) := ⟨am_mP_150, by rw [am_m_150]; exact am_in4 (i := 127) (by decide +kernel) rfl, by rw [am_m_150]; exact am_in4 (i := 128) (by decide +kernel) rfl, by rw [am_m_150]; decide +kernel⟩
theorem am_mkr_7_89 : am_mkP (7, 89, 151, 2, 7, 0) := ⟨am_mP_151, by rw [am_m_151]; exact am_in4 (i := 130) (by decide +kernel) rfl, by rw [am_m_151]; exact am_in4 (i := 132) (by decide +kernel) rfl, by rw [am_m_151]; exact am_inP (q := (⟨"ThingsThrownModel", "isDueRead", "(I)Z"⟩, 17)) (am_inP2 (i := 15) (by decide +kernel)) rfl, by rw [am_m_151]; decide +kernel, by rw [am_m_151]; decide +kernel⟩
theorem am_mkr_7_92 : am_mkP (7, 92, 148, 2, 7, 0) := ⟨am_mP_148, by rw [am_m_148]; exact am_in4 (i := 119) (by decide +kernel) rfl, by rw [am_m_148]; exact am_in4 (i := 121) (by decide +kernel) rfl, by rw [am_m_148]; exact am_inP (q := (⟨"ThingsThrownModel", "readText", "(I)I"⟩, 17)) (am_inP2 (i := 13) (by decide +kernel)) rfl, by rw [am_m_148]; decide +kernel, by rw [am_m_148]; decide +kernel⟩
theorem am_mkr_7_98 : am_mkP (7, 98, 156, 2, 0, 1) := ⟨am_mP_156, by rw [am_m_156]; exact am_in4 (i := 149) (by decide +kernel) rfl, by rw [am_m_156]; exact am_in4 (i := 150) (by decide +kernel) rfl, by rw [am_m_156]; decide +kernel⟩
theorem am_mkr_7_101 : am_mkP (7, 101, 154, 2, 7, 0) := ⟨am_mP_154, by rw [am_m_154]; exact am_in4 (i := 142) (by decide +kernel) rfl, by rw [am_m_154]; exact am_in4 (i := 144) (by decide +kernel) rfl, by rw [am_m_154]; exact am_inP (q := (⟨"ThingsThrownModel", "isThing", "(I)Z"⟩, 17)) (am_inP3 (i := 0) (by decide +kernel)) rfl, by rw [am_m_154]; decide +kernel, by rw [am_m_154]; decide +kernel⟩
theorem am_mkr_7_104 : am_mkP (7, 104, 155, 1, 0, 1) := ⟨am_mP_155, by rw [am_m_155]; exact am_in4 (i := 146) (by decide +kernel) rfl, by rw [am_m_155]; exact am_in4 (i := 147) (by decide +kernel) rfl, by rw [am_m_155]; decide +kernel⟩
theorem am_mkr_7_107 : am_mkP (7, 107, 158, 2, 0, 1) := ⟨am_mP_158, by rw [am_m_158]; exact am_in4 (i := 156) (by decide +kernel) rfl, by rw [am_m_158]; exact am_in4 (i := 157) (by decide +kernel) rfl, by rw [am_m_158]; decide +kernel⟩
theorem am_mkr_7_110 : am_mkP (7, 110, 159, 2, 7, 0) := ⟨am_mP_159, by rw [am_m_159]; exact am_in4 (i := 159) (by decide +kernel) rfl, by rw [am_m_159]; exact am_in4 (i := 161) (by decide +kernel) rfl, by rw [am_m_159]; exact am_inP (q := (⟨"ThingsThrownModel", "torchesAhead", "(I)I"⟩, 17)) (am_inP3 (i := 1) (by decide +kernel)) rfl, by rw [am_m_159]; decide +kernel, by rw [am_m_159]; decide +kernel⟩
theorem am_mkr_7_113 : am_mkP (7, 113, 160, 2, 7, 0) := ⟨am_mP_160, by rw [am_m_160]; exact am_in4 (i := 163) (by decide +kernel) rfl, by rw [am_m_160]; exact am_in4 (i := 165) (by decide +kernel) rfl, by rw [am_m_160]; exact am_inP (q := (⟨"ThingsThrownModel", "thingsBehind", "(I)I"⟩, 17)) (am_inP3 (i := 2) (by decide +kernel)) rfl, by rw [am_m_160]; decide +kernel, by rw [am_m_160]; decide +kernel⟩
theorem am_mkr_7_116 : am_mkP (7, 116, 164, 2, 7, 0) := ⟨am_mP_164, by rw [am_m_164]; exact am_in4 (i := 178) (by decide +kernel) rfl, by rw [am_m_164]; exact am_in4 (i := 180) (by decide +kernel) rfl, by rw [am_m_164]; exact am_inP (q := (⟨"ThingsThrownModel", "dueAt", "(I)I"⟩, 17)) (am_inP3 (i := 4) (by decide +kernel)) rfl, by rw [am_m_164]; decide +kernel, by rw [am_m_164]; decide +kernel⟩
theorem am_mkr_7_119 : am_mkP (7, 119, 165, 2, 7, 0) := ⟨am_mP_165, by rw [am_m_165]; exact am_in4 (i := 182) (by decide +kernel) rfl, by rw [am_m_165]; exact am_in4 (i := 184) (by decide +kernel) rfl, by rw [am_m_165]; exact am_inP (q := (⟨"ThingsThrownModel", "skyAt", "(I)I"⟩, 17)) (am_inP3 (i := 5) (by decide +kernel)) rfl, by rw [am_m_165]; decide +kernel, by rw [am_m_165]; decide +kernel⟩
theorem am_mkr_7_122 : am_mkP (7, 122, 166, 2, 0, 1) := ⟨am_mP_166, by rw [am_m_166]; exact am_in4 (i := 186) (by decide +kernel) rfl, by rw [am_m_166]; exact am_in4 (i := 187) (by decide +kernel) rfl, by rw [am_m_166]; decide +kernel⟩
theorem am_mkr_7_126 : am_mkP (7, 126, 163, 3, 7, 0) := ⟨am_mP_163, by rw [am_m_163]; exact am_in4 (i := 174) (by decide +kernel) rfl, by rw [am_m_163]; exact am_in4 (i := 176) (by decide +kernel) rfl, by rw [am_m_163]; exact am_inP (q := (⟨"ThingsThrownModel", "mayAt", "(II)Z"⟩, 17)) (am_inP3 (i := 3) (by decide +kernel)) rfl, by rw [am_m_163]; decide +kernel, by rw [am_m_163]; decide +kernel⟩
theorem am_mkr_7_129 : am_mkP (7, 129, 170, 2, 7, 0) := ⟨am_mP_170, by rw [am_m_170]; exact am_in4 (i := 201) (by decide +kernel) rfl, by rw [am_m_170]; exact am_in4 (i := 203) (by decide +kernel) rfl, by rw [am_m_170]; exact am_inP (q := (⟨"ThingsThrownModel", "later", "(I)V"⟩, 17)) (am_inP3 (i := 9) (by decide +kernel)) rfl, by rw [am_m_170]; decide +kernel, by rw [am_m_170]; decide +kernel⟩
theorem am_mkr_7_133 : am_mkP (7, 133, 168, 4, 7, 0) := ⟨am_mP_168, by rw [am_m_168]; exact am_in4 (i := 193) (by decide +kernel) rfl, by rw [am_m_168]; exact am_in4 (i := 195) (by decide +kernel) rfl, by rw [am_m_168]; exact am_inP (q := (⟨"ThingsThrownModel", "copyRow", "(III)V"⟩, 17)) (am_inP3 (i := 7) (by decide +kernel)) rfl, by rw [am_m_168]; decide +kernel, by rw [am_m_168]; decide +kernel⟩
theorem am_mkr_7_137 : am_mkP (7, 137, 162, 1, 0, 1) := ⟨am_mP_162, by rw [am_m_162]; exact am_in4 (i := 171) (by decide +kernel) rfl, by rw [am_m_162]; exact am_in4 (i := 172) (by decide +kernel) rfl, by rw [am_m_162]; decide +kernel⟩
theorem am_mkr_7_140 : am_mkP (7, 140, 167, 1, 7, 0) := ⟨am_mP_167, by rw [am_m_167]; exact am_in4 (i := 189) (by decide +kernel) rfl, by rw [am_m_167]; exact am_in4 (i := 191) (by decide +kernel) rfl, by rw [am_m_167]; exact am_inP (q := (⟨"ThingsThrownModel", "remember", "()V"⟩, 17)) (am_inP3 (i := 6) (by decide +kernel)) rfl, by rw [am_m_167]; decide +kernel, by rw [am_m_167]; decide +kernel⟩
theorem am_mkr_7_143 : am_mkP (7, 143, 169, 3, 7, 0) := ⟨am_mP_169, by rw [am_m_169]; exact am_in4 (i := 197) (by decide +kernel) rfl, by rw [am_m_169]; exact am_in4 (i := 199) (by decide +kernel) rfl, by rw [am_m_169]; exact am_inP (q := (⟨"ThingsThrownModel", "tossAt", "(II)V"⟩, 17)) (am_inP3 (i := 8) (by decide +kernel)) rfl, by rw [am_m_169]; decide +kernel, by rw [am_m_169]; decide +kernel⟩
theorem am_mkr_7_147 : am_mkP (7, 147, 173, 3, 7, 0) := ⟨am_mP_173, by rw [am_m_173]; exact am_in4 (i := 213) (by decide +kernel) rfl, by rw [am_m_173]; exact am_in4 (i := 215) (by decide +kernel) rfl, by rw [am_m_173]; exact am_inP (q := (⟨"ThingsThrownModel", "swap", "(II)V"⟩, 17)) (am_inP3 (i := 10) (by decide +kernel)) rfl, by rw [am_m_173]; decide +kernel, by rw [am_m_173]; decide +kernel⟩
theorem am_mkr_7_150 : am_mkP (7, 150, 179, 2, 7, 0) := ⟨am_mP_179, by rw [am_m_179]; exact am_in4 (i := 237) (by decide +kernel) rfl, by rw [am_m_179]; exact am_in4 (i := 239) (by decide +kernel) rfl, by rw [am_m_179]; exact am_inP (q := (⟨"ThingsThrownModel", "heightsAt", "(I)I"⟩, 17)) (am_inP3 (i := 11) (by decide +kernel)) rfl, by rw [am_m_179]; decide +kernel, by rw [am_m_179]; decide +kernel⟩
theorem am_mkr_7_153 : am_mkP (7, 153, 181, 4, 7, 0) := ⟨am_mP_181, by rw [am_m_181]; exact am_in5 (i := 5) (by decide +kernel) rfl, by rw [am_m_181]; exact am_in5 (i := 7) (by decide +kernel) rfl, by rw [am_m_181]; exact am_inP (q := (⟨"ThingsThrownModel", "wrongHeights", "(III)I"⟩, 17)) (am_inP3 (i := 12) (by decide +kernel)) rfl, by rw [am_m_181]; decide +kernel, by rw [am_m_181]; decide +kernel⟩
theorem am_mkr_7_157 : am_mkP (7, 157, 182, 1, 7, 0) := ⟨am_mP_182, by rw [am_m_182]; exact am_in5 (i := 9) (by decide +kernel) rfl, by rw [am_m_182]; exact am_in5 (i := 11) (by decide +kernel) rfl, by rw [am_m_182]; exact am_inP (q := (⟨"ThingsThrownModel", "beginTry", "()V"⟩, 17)) (am_inP3 (i := 13) (by decide +kernel)) rfl, by rw [am_m_182]; decide +kernel, by rw [am_m_182]; decide +kernel⟩
theorem am_mkr_7_160 : am_mkP (7, 160, 183, 2, 7, 0) := ⟨am_mP_183, by rw [am_m_183]; exact am_in5 (i := 13) (by decide +kernel) rfl, by rw [am_m_183]; exact am_in5 (i := 15) (by decide +kernel) rfl, by rw [am_m_183]; exact am_inP (q := (⟨"ThingsThrownModel", "restsAt", "(I)V"⟩, 17)) (am_inP3 (i := 14) (by decide +kernel)) rfl, by rw [am_m_183]; decide +kernel, by rw [am_m_183]; decide +kernel⟩
theorem am_mkr_7_163 : am_mkP (7, 163, 185, 1, 7, 0) := ⟨am_mP_185, by rw [am_m_185]; exact am_in5 (i := 21) (by decide +kernel) rfl, by rw [am_m_185]; exact am_in5 (i := 23) (by decide +kernel) rfl, by rw [am_m_185]; exact am_inP (q := (⟨"ThingsThrownModel", "isAsNow", "()Z"⟩, 17)) (am_inP3 (i := 15) (by decide +kernel)) rfl, by rw [am_m_185]; decide +kernel, by rw [am_m_185]; decide +kernel⟩
theorem am_mkr_7_167 : am_mkP (7, 167, 188, 2, 0, 1) := ⟨am_mP_188, by rw [am_m_188]; exact am_in5 (i := 33) (by decide +kernel) rfl, by rw [am_m_188]; exact am_in5 (i := 34) (by decide +kernel) rfl, by rw [am_m_188]; decide +kernel⟩
theorem am_mkr_7_170 : am_mkP (7, 170, 190, 3, 0, 1) := ⟨am_mP_190, by rw [am_m_190]; exact am_in5 (i := 40) (by decide +kernel) rfl, by rw [am_m_190]; exact am_in5 (i := 41) (by decide +kernel) rfl, by rw [am_m_190]; decide +kernel⟩
theorem am_mkr_7_174 : am_mkP (7, 174, 187, 1, 0, 1) := ⟨am_mP_187, by rw [am_m_187]; exact am_in5 (i := 29) (by decide +kernel) rfl, by rw [am_m_187]; exact am_in5 (i := 30) (by decide +kernel) rfl, by rw [am_m_187]; decide +kernel⟩
theorem am_mkr_7_177 : am_mkP (7, 177, 189, 3, 7, 0) := ⟨am_mP_189, by rw [am_m_189]; exact am_in5 (i := 36) (by decide +kernel) rfl, by rw [am_m_189]; exact am_in5 (i := 38) (by decide +kernel) rfl, by rw [am_m_189]; exact am_inP (q := (⟨"ThingsThrownModel", "canThrow", "(II)Z"⟩, 17)) (am_inP4 (i := 0) (by decide +kernel)) rfl, by rw [am_m_189]; decide +kernel, by rw [am_m_189]; decide +kernel⟩
theorem am_mkr_7_180 : am_mkP (7, 180, 191, 2, 7, 0) := ⟨am_mP_191, by rw [am_m_191]; exact am_in5 (i := 43) (by decide +kernel) rfl, by rw [am_m_191]; exact am_in5 (i := 45) (by decide +kernel) rfl, by rw [am_m_191]; exact am_inP (q := (⟨"ThingsThrownModel", "comesTo", "(I)Z"⟩, 17)) (am_inP4 (i := 1) (by decide +kernel)) rfl, by rw [am_m_191]; decide +kernel, by rw [am_m_191]; decide +kernel⟩
theorem am_mkr_7_186 : am_mkP (7, 186, 195, 3, 7, 0) := ⟨am_mP_195, by rw [am_m_195]; exact am_in5 (i := 59) (by decide +kernel) rfl, by rw [am_m_195]; exact am_in5 (i := 61) (by decide +kernel) rfl, by rw [am_m_195]; exact am_inP (q := (⟨"ThingsThrownModel", "wrongPairs", "(II)I"⟩, 17)) (am_inP4 (i := 2) (by decide +kernel)) rfl, by rw [am_m_195]; decide +kernel, by rw [am_m_195]; decide +kernel⟩
theorem am_mkr_7_189 : am_mkP (7, 189, 196, 2, 7, 0) := ⟨am_mP_196, by rw [am_m_196]; exact am_in5 (i := 63) (by decide +kernel) rfl, by rw [am_m_196]; exact am_in5 (i := 65) (by decide +kernel) rfl, by rw [am_m_196]; exact am_inP (q := (⟨"ThingsThrownModel", "kindsBy", "(I)I"⟩, 17)) (am_inP4 (i := 3) (by decide +kernel)) rfl, by rw [am_m_196]; decide +kernel, by rw [am_m_196]; decide +kernel⟩
theorem am_mkr_7_192 : am_mkP (7, 192, 198, 2, 0, 1) := ⟨am_mP_198, by rw [am_m_198]; exact am_in5 (i := 71) (by decide +kernel) rfl, by rw [am_m_198]; exact am_in5 (i := 72) (by decide +kernel) rfl, by rw [am_m_198]; decide +kernel⟩
theorem am_mkr_7_196 : am_mkP (7, 196, 200, 1, 0, 1) := ⟨am_mP_200, by rw [am_m_200]; exact am_in5 (i := 78) (by decide +kernel) rfl, by rw [am_m_200]; exact am_in5 (i := 79) (by decide +kernel) rfl, by rw [am_m_200]; decide +kernel⟩
theorem am_mkr_7_199 : am_mkP (7, 199, 202, 2, 7, 0) := ⟨am_mP_202, by rw [am_m_202]; exact am_in5 (i := 86) (by decide +kernel) rfl, by rw [am_m_202]; exact am_in5 (i := 88) (by decide +kernel) rfl, by rw [am_m_202]; exact am_inP (q := (⟨"ThingsThrownModel", "sumAt", "(I)I"⟩, 17)) (am_inP4 (i := 5) (by decide +kernel)) rfl, by rw [am_m_202]; decide +kernel, by rw [am_m_202]; decide +kernel⟩
theorem am_mkr_7_202 : am_mkP (7, 202, 203, 3, 7, 0) := ⟨am_mP_203, by rw [am_m_203]; exact am_in5 (i := 90) (by decide +kernel) rfl, by rw [am_m_203]; exact am_in5 (i := 92) (by decide +kernel) rfl, by rw [am_m_203]; exact am_inP (q := (⟨"ThingsThrownModel", "bestOf", "(II)I"⟩, 17)) (am_inP4 (i := 6) (by decide +kernel)) rfl, by rw [am_m_203]; decide +kernel, by rw [am_m_203]; decide +kernel⟩
theorem am_mkr_7_205 : am_mkP (7, 205, 201, 4, 7, 0) := ⟨am_mP_201, by rw [am_m_201]; exact am_in5 (i := 81) (by decide +kernel) rfl, by rw [am_m_201]; exact am_in5 (i := 83) (by decide +kernel) rfl, by rw [am_m_201]; exact am_inP (q := (⟨"ThingsThrownModel", "worthOf", "(III)I"⟩, 17)) (am_inP4 (i := 4) (by decide +kernel)) rfl, by rw [am_m_201]; decide +kernel, by rw [am_m_201]; decide +kernel⟩
theorem am_mkr_7_208 : am_mkP (7, 208, 206, 3, 7, 0) := ⟨am_mP_206, by rw [am_m_206]; exact am_in5 (i := 102) (by decide +kernel) rfl, by rw [am_m_206]; exact am_in5 (i := 104) (by decide +kernel) rfl, by rw [am_m_206]; exact am_inP (q := (⟨"ThingsThrownModel", "wrongChance", "(II)I"⟩, 17)) (am_inP4 (i := 8) (by decide +kernel)) rfl, by rw [am_m_206]; decide +kernel, by rw [am_m_206]; decide +kernel⟩
theorem am_mkr_7_213 : am_mkP (7, 213, 207, 3, 7, 0) := ⟨am_mP_207, by rw [am_m_207]; exact am_in5 (i := 107) (by decide +kernel) rfl, by rw [am_m_207]; exact am_in5 (i := 109) (by decide +kernel) rfl, by rw [am_m_207]; exact am_inP (q := (⟨"ThingsThrownModel", "madeWith", "(II)I"⟩, 17)) (am_inP4 (i := 9) (by decide +kernel)) rfl, by rw [am_m_207]; decide +kernel, by rw [am_m_207]; decide +kernel⟩
theorem am_mkr_7_216 : am_mkP (7, 216, 208, 4, 7, 0) := ⟨am_mP_208, by rw [am_m_208]; exact am_in5 (i := 111) (by decide +kernel) rfl, by rw [am_m_208]; exact am_in5 (i := 113) (by decide +kernel) rfl, by rw [am_m_208]; exact am_inP (q := (⟨"ThingsThrownModel", "chanceOf", "(III)J"⟩, 17)) (am_inP4 (i := 10) (by decide +kernel)) rfl, by rw [am_m_208]; decide +kernel, by rw [am_m_208]; decide +kernel⟩
theorem am_mkr_7_220 : am_mkP (7, 220, 209, 3, 7, 0) := ⟨am_mP_209, by rw [am_m_209]; exact am_in5 (i := 115) (by decide +kernel) rfl, by rw [am_m_209]; exact am_in5 (i := 117) (by decide +kernel) rfl, by rw [am_m_209]; exact am_inP (q := (⟨"ThingsThrownModel", "tellPart", "(JJ)V"⟩, 17)) (am_inP4 (i := 11) (by decide +kernel)) rfl, by rw [am_m_209]; decide +kernel, by rw [am_m_209]; decide +kernel⟩
theorem am_mkr_7_224 : am_mkP (7, 224, 205, 4, 7, 0) := ⟨am_mP_205, by rw [am_m_205]; exact am_in5 (i := 98) (by decide +kernel) rfl, by rw [am_m_205]; exact am_in5 (i := 100) (by decide +kernel) rfl, by rw [am_m_205]; exact am_inP (q := (⟨"ThingsThrownModel", "chances", "(IIZ)I"⟩, 17)) (am_inP4 (i := 7) (by decide +kernel)) rfl, by rw [am_m_205]; decide +kernel, by rw [am_m_205]; decide +kernel⟩
theorem am_mkr_7_233 : am_mkP (7, 233, 212, 2, 7, 0) := ⟨am_mP_212, by rw [am_m_212]; exact am_in5 (i := 130) (by decide +kernel) rfl, by rw [am_m_212]; exact am_in5 (i := 132) (by decide +kernel) rfl, by rw [am_m_212]; exact am_inP (q := (⟨"ThingsThrownModel", "doByLot", "(I)V"⟩, 17)) (am_inP4 (i := 12) (by decide +kernel)) rfl, by rw [am_m_212]; decide +kernel, by rw [am_m_212]; decide +kernel⟩
theorem am_mkr_7_236 : am_mkP (7, 236, 217, 1, 7, 0) := ⟨am_mP_217, by rw [am_m_217]; exact am_in5 (i := 150) (by decide +kernel) rfl, by rw [am_m_217]; exact am_in5 (i := 152) (by decide +kernel) rfl, by rw [am_m_217]; exact am_inP (q := (⟨"ThingsThrownModel", "throwsMade", "()I"⟩, 17)) (am_inP4 (i := 13) (by decide +kernel)) rfl, by rw [am_m_217]; decide +kernel, by rw [am_m_217]; decide +kernel⟩
theorem am_mkr_7_240 : am_mkP (7, 240, 218, 3, 7, 0) := ⟨am_mP_218, by rw [am_m_218]; exact am_in5 (i := 154) (by decide +kernel) rfl, by rw [am_m_218]; exact am_in5 (i := 156) (by decide +kernel) rfl, by rw [am_m_218]; exact am_inP (q := (⟨"ThingsThrownModel", "ofKinds", "(II)I"⟩, 17)) (am_inP4 (i := 14) (by decide +kernel)) rfl, by rw [am_m_218]; decide +kernel, by rw [am_m_218]; decide +kernel⟩
theorem am_mkr_7_243 : am_mkP (7, 243, 219, 2, 0, 1) := ⟨am_mP_219, by rw [am_m_219]; exact am_in5 (i := 158) (by decide +kernel) rfl, by rw [am_m_219]; exact am_in5 (i := 159) (by decide +kernel) rfl, by rw [am_m_219]; decide +kernel⟩
theorem am_mkr_7_251 : am_mkP (7, 251, 216, 2, 7, 0) := ⟨am_mP_216, by rw [am_m_216]; exact am_in5 (i := 175) (by decide +kernel) rfl, by rw [am_m_216]; exact am_in5 (i := 147) (by decide +kernel) rfl, by rw [am_m_216]; exact am_in5 (i := 148) (by decide +kernel) rfl, by rw [am_m_216]; decide +kernel, by rw [am_m_216]; decide +kernel⟩
theorem am_mkr_8_24 : am_mkP (8, 24, 44, 2, 0, 1) := ⟨am_mP_44, by rw [am_m_44]; exact am_in2 (i := 115) (by decide +kernel) rfl, by rw [am_m_44]; exact am_in2 (i := 105) (by decide +kernel) rfl, by rw [am_m_44]; decide +kernel⟩
theorem am_mkr_8_28 : am_mkP (8, 28, 9002, 0, 0, 6) := am_in2 (i := 116) (by decide +kernel) rfl
theorem am_mkr_8_34 : am_mkP (8, 34, 46, 2, 0, 1) := ⟨am_mP_46, by rw [am_m_46]; exact am_in2 (i := 112) (by decide +kernel) rfl, by rw [am_m_46]; exact am_in2 (i := 113) (by decide +kernel) rfl, by rw [am_m_46]; decide +kernel⟩
theorem am_mkr_8_37 : am_mkP (8, 37, 100, 2, 0, 1) := ⟨am_mP_100, by rw [am_m_100]; exact am_in3 (i := 103) (by decide +kernel) rfl, by rw [am_m_100]; exact am_in3 (i := 104) (by decide +kernel) rfl, by rw [am_m_100]; decide +kernel⟩
theorem am_mkr_8_50 : am_mkP (8, 50, 103, 2, 0, 1) := ⟨am_mP_103, by rw [am_m_103]; exact am_in3 (i := 113) (by decide +kernel) rfl, by rw [am_m_103]; exact am_in3 (i := 114) (by decide +kernel) rfl, by rw [am_m_103]; decide +kernel⟩
theorem am_mkr_8_53 : am_mkP (8, 53, 104, 3, 0, 1) := ⟨am_mP_104, by rw [am_m_104]; exact am_in3 (i := 116) (by decide +kernel) rfl, by rw [am_m_104]; exact am_in3 (i := 117) (by decide +kernel) rfl, by rw [am_m_104]; decide +kernel⟩
def am_mk_0 : List (Nat × Nat × Nat × Nat × Nat × Nat) := [(0, 1, 9000, 0, 0, 3), (0, 20, 1, 1, 5, 5), (0, 27, 2, 1, 6, 5), (0, 34, 3, 1, 2, 5), (0, 45, 4, 2, 3, 2), (0, 54, 5, 2, 1, 2), (0, 77, 6, 2, 4, 2), (0, 80, 7, 1, 2, 0), (0, 83, 9, 1, 0, 1), (0, 87, 10, 2, 0, 0), (0, 91, 11, 3, 4, 0), (0, 95, 13, 3, 0, 0), (0, 102, 17, 2, 0, 0), (0, 105, 14, 2, 0, 0), (0, 111, 15, 1, 4, 0), (0, 115, 21, 3, 4, 0), (0, 119, 9001, 0, 0, 4), (0, 125, 24, 1, 0, 1), (0, 128, 26, 2, 0, 0), (0, 131, 16, 2, 4, 0)]
theorem am_mk_0_ok : ∀ q ∈ am_mk_0, am_mkP q := List.forall_mem_cons.mpr ⟨am_mkr_0_1, List.forall_mem_cons.mpr ⟨am_mkr_0_20, List.forall_mem_cons.mpr ⟨am_mkr_0_27, List.forall_mem_cons.mpr ⟨am_mkr_0_34, List.forall_mem_cons.mpr ⟨am_mkr_0_45, List.forall_mem_cons.mpr ⟨am_mkr_0_54, List.forall_mem_cons.mpr ⟨am_mkr_0_77, List.forall_mem_cons.mpr ⟨am_mkr_0_80, List.forall_mem_cons.mpr ⟨am_mkr_0_83, List.forall_mem_cons.mpr ⟨am_mkr_0_87, List.forall_mem_cons.mpr ⟨am_mkr_0_91, List.forall_mem_cons.mpr ⟨am_mkr_0_95, List.forall_mem_cons.mpr ⟨am_mkr_0_102, List.forall_mem_cons.mpr ⟨am_mkr_0_105, List.forall_mem_cons.mpr ⟨am_mkr_0_111, List.forall_mem_cons.mpr ⟨am_mkr_0_115, List.forall_mem_cons.mpr ⟨am_mkr_0_119, List.forall_mem_cons.mpr ⟨am_mkr_0_125, List.forall_mem_cons.mpr ⟨am_mkr_0_128, List.forall_mem_cons.mpr ⟨am_mkr_0_131, fun _ h => absurd h List.not_mem_nil⟩⟩⟩⟩⟩⟩⟩⟩⟩⟩⟩⟩⟩⟩⟩⟩⟩⟩⟩⟩
def am_mk_1 : List (Nat × Nat × Nat × Nat × Nat × Nat) := [(0, 134, 28, 2, 5, 0), (0, 139, 37, 2, 6, 0), (0, 145, 38, 2, 2, 0), (0, 149, 40, 2, 0, 0), (0, 152, 41, 3, 0, 0), (0, 160, 44, 2, 0, 1), (0, 163, 45, 1, 0, 1), (0, 167, 33, 2, 0, 1), (0, 170, 47, 1, 0, 1), (0, 173, 48, 3, 6, 0), (0, 176, 49, 3, 6, 0), (0, 179, 51, 1, 0, 1), (0, 182, 52, 3, 6, 0), (0, 185, 55, 1, 2, 0), (0, 188, 56, 2, 0, 0), (0, 191, 61, 1, 0, 0), (0, 195, 53, 2, 6, 0), (0, 198, 63, 1, 0, 0), (0, 201, 65, 3, 0, 0), (0, 207, 68, 2, 2, 0)]
theorem am_mk_1_ok : ∀ q ∈ am_mk_1, am_mkP q := List.forall_mem_cons.mpr ⟨am_mkr_0_134, List.forall_mem_cons.mpr ⟨am_mkr_0_139, List.forall_mem_cons.mpr ⟨am_mkr_0_145, List.forall_mem_cons.mpr ⟨am_mkr_0_149, List.forall_mem_cons.mpr ⟨am_mkr_0_152, List.forall_mem_cons.mpr ⟨am_mkr_0_160, List.forall_mem_cons.mpr ⟨am_mkr_0_163, List.forall_mem_cons.mpr ⟨am_mkr_0_167, List.forall_mem_cons.mpr ⟨am_mkr_0_170, List.forall_mem_cons.mpr ⟨am_mkr_0_173, List.forall_mem_cons.mpr ⟨am_mkr_0_176, List.forall_mem_cons.mpr ⟨am_mkr_0_179, List.forall_mem_cons.mpr ⟨am_mkr_0_182, List.forall_mem_cons.mpr ⟨am_mkr_0_185, List.forall_mem_cons.mpr ⟨am_mkr_0_188, List.forall_mem_cons.mpr ⟨am_mkr_0_191, List.forall_mem_cons.mpr ⟨am_mkr_0_195, List.forall_mem_cons.mpr ⟨am_mkr_0_198, List.forall_mem_cons.mpr ⟨am_mkr_0_201, List.forall_mem_cons.mpr ⟨am_mkr_0_207, fun _ h => absurd h List.not_mem_nil⟩⟩⟩⟩⟩⟩⟩⟩⟩⟩⟩⟩⟩⟩⟩⟩⟩⟩⟩⟩
def am_mk_2 : List (Nat × Nat × Nat × Nat × Nat × Nat) := [(0, 210, 70, 1, 0, 1), (0, 213, 71, 2, 2, 0), (0, 216, 60, 1, 2, 0), (0, 219, 46, 2, 0, 1), (0, 222, 75, 2, 6, 0), (0, 225, 77, 4, 0, 0), (0, 229, 78, 3, 3, 0), (0, 236, 32, 2, 6, 0), (0, 239, 82, 3, 3, 0), (0, 242, 85, 1, 0, 1), (0, 245, 86, 3, 3, 0), (0, 251, 91, 3, 3, 0), (0, 255, 93, 3, 0, 0), (0, 262, 96, 3, 3, 0), (0, 265, 98, 3, 0, 0), (0, 268, 99, 1, 0, 1), (0, 271, 102, 1, 0, 1), (0, 274, 103, 2, 0, 1), (0, 277, 106, 3, 3, 0), (0, 280, 110, 3, 0, 0)]
theorem am_mk_2_ok : ∀ q ∈ am_mk_2, am_mkP q := List.forall_mem_cons.mpr ⟨am_mkr_0_210, List.forall_mem_cons.mpr ⟨am_mkr_0_213, List.forall_mem_cons.mpr ⟨am_mkr_0_216, List.forall_mem_cons.mpr ⟨am_mkr_0_219, List.forall_mem_cons.mpr ⟨am_mkr_0_222, List.forall_mem_cons.mpr ⟨am_mkr_0_225, List.forall_mem_cons.mpr ⟨am_mkr_0_229, List.forall_mem_cons.mpr ⟨am_mkr_0_236, List.forall_mem_cons.mpr ⟨am_mkr_0_239, List.forall_mem_cons.mpr ⟨am_mkr_0_242, List.forall_mem_cons.mpr ⟨am_mkr_0_245, List.forall_mem_cons.mpr ⟨am_mkr_0_251, List.forall_mem_cons.mpr ⟨am_mkr_0_255, List.forall_mem_cons.mpr ⟨am_mkr_0_262, List.forall_mem_cons.mpr ⟨am_mkr_0_265, List.forall_mem_cons.mpr ⟨am_mkr_0_268, List.forall_mem_cons.mpr ⟨am_mkr_0_271, List.forall_mem_cons.mpr ⟨am_mkr_0_274, List.forall_mem_cons.mpr ⟨am_mkr_0_277, List.forall_mem_cons.mpr ⟨am_mkr_0_280, fun _ h => absurd h List.not_mem_nil⟩⟩⟩⟩⟩⟩⟩⟩⟩⟩⟩⟩⟩⟩⟩⟩⟩⟩⟩⟩
def am_mk_3 : List (Nat × Nat × Nat × Nat × Nat × Nat) := [(0, 283, 111, 4, 1, 0), (0, 287, 113, 1, 0, 1), (0, 291, 115, 4, 1, 0), (0, 299, 117, 2, 0, 0), (0, 305, 108, 2, 6, 0), (0, 308, 123, 1, 2, 0), (0, 310, 124, 2, 6, 0), (0, 313, 125, 1, 0, 1), (0, 317, 126, 1, 0, 0), (0, 324, 122, 2, 0, 0), (0, 327, 130, 2, 0, 1), (0, 332, 94, 2, 0, 1), (0, 336, 42, 1, 0, 1), (0, 342, 57, 3, 6, 0), (0, 345, 59, 4, 2, 0), (0, 349, 58, 3, 6, 0), (0, 352, 66, 3, 0, 1), (0, 355, 118, 2, 0, 0), (1, 3, 9000, 0, 0, 3), (1, 17, 112, 6, 1, 0)]
theorem am_mk_3_ok : ∀ q ∈ am_mk_3, am_mkP q := List.forall_mem_cons.mpr ⟨am_mkr_0_283, List.forall_mem_cons.mpr ⟨am_mkr_0_287, List.forall_mem_cons.mpr ⟨am_mkr_0_291, List.forall_mem_cons.mpr ⟨am_mkr_0_299, List.forall_mem_cons.mpr ⟨am_mkr_0_305, List.forall_mem_cons.mpr ⟨am_mkr_0_308, List.forall_mem_cons.mpr ⟨am_mkr_0_310, List.forall_mem_cons.mpr ⟨am_mkr_0_313, List.forall_mem_cons.mpr ⟨am_mkr_0_317, List.forall_mem_cons.mpr ⟨am_mkr_0_324, List.forall_mem_cons.mpr ⟨am_mkr_0_327, List.forall_mem_cons.mpr ⟨am_mkr_0_332, List.forall_mem_cons.mpr ⟨am_mkr_0_336, List.forall_mem_cons.mpr ⟨am_mkr_0_342, List.forall_mem_cons.mpr ⟨am_mkr_0_345, List.forall_mem_cons.mpr ⟨am_mkr_0_349, List.forall_mem_cons.mpr ⟨am_mkr_0_352, List.forall_mem_cons.mpr ⟨am_mkr_0_355, List.forall_mem_cons.mpr ⟨am_mkr_1_3, List.forall_mem_cons.mpr ⟨am_mkr_1_17, fun _ h => absurd h List.not_mem_nil⟩⟩⟩⟩⟩⟩⟩⟩⟩⟩⟩⟩⟩⟩⟩⟩⟩⟩⟩⟩
def am_mk_4 : List (Nat × Nat × Nat × Nat × Nat × Nat) := [(1, 27, 79, 2, 6, 0), (1, 37, 9003, 0, 0, 7), (1, 43, 113, 1, 0, 1), (1, 47, 52, 3, 6, 0), (1, 51, 57, 3, 6, 0), (2, 3, 9000, 0, 0, 3), (2, 34, 60, 1, 2, 0), (2, 38, 55, 1, 2, 0), (2, 41, 9001, 0, 0, 4), (3, 3, 9000, 0, 0, 3), (3, 31, 79, 2, 6, 0), (3, 40, 52, 3, 6, 0), (3, 44, 57, 3, 6, 0), (3, 48, 78, 3, 3, 0), (3, 52, 83, 3, 3, 0), (3, 55, 80, 2, 6, 0), (3, 58, 58, 3, 6, 0), (3, 61, 32, 2, 6, 0), (3, 64, 87, 1, 0, 1), (3, 70, 88, 5, 3, 0)]
theorem am_mk_4_ok : ∀ q ∈ am_mk_4, am_mkP q := List.forall_mem_cons.mpr ⟨am_mkr_1_27, List.forall_mem_cons.mpr ⟨am_mkr_1_37, List.forall_mem_cons.mpr ⟨am_mkr_1_43, List.forall_mem_cons.mpr ⟨am_mkr_1_47, List.forall_mem_cons.mpr ⟨am_mkr_1_51, List.forall_mem_cons.mpr ⟨am_mkr_2_3, List.forall_mem_cons.mpr ⟨am_mkr_2_34, List.forall_mem_cons.mpr ⟨am_mkr_2_38, List.forall_mem_cons.mpr ⟨am_mkr_2_41, List.forall_mem_cons.mpr ⟨am_mkr_3_3, List.forall_mem_cons.mpr ⟨am_mkr_3_31, List.forall_mem_cons.mpr ⟨am_mkr_3_40, List.forall_mem_cons.mpr ⟨am_mkr_3_44, List.forall_mem_cons.mpr ⟨am_mkr_3_48, List.forall_mem_cons.mpr ⟨am_mkr_3_52, List.forall_mem_cons.mpr ⟨am_mkr_3_55, List.forall_mem_cons.mpr ⟨am_mkr_3_58, List.forall_mem_cons.mpr ⟨am_mkr_3_61, List.forall_mem_cons.mpr ⟨am_mkr_3_64, List.forall_mem_cons.mpr ⟨am_mkr_3_70, fun _ h => absurd h List.not_mem_nil⟩⟩⟩⟩⟩⟩⟩⟩⟩⟩⟩⟩⟩⟩⟩⟩⟩⟩⟩⟩
def am_mk_5 : List (Nat × Nat × Nat × Nat × Nat × Nat) := [(3, 74, 89, 3, 3, 0), (3, 77, 75, 2, 6, 0), (3, 80, 92, 4, 3, 0), (3, 84, 107, 3, 3, 0), (3, 87, 108, 2, 6, 0), (3, 92, 9002, 0, 0, 6), (3, 97, 9003, 0, 0, 7), (4, 1, 9000, 0, 0, 3), (4, 17, 9003, 0, 0, 7), (4, 23, 9002, 0, 0, 6), (5, 3, 9000, 0, 0, 3), (5, 11, 2, 1, 6, 5), (5, 22, 29, 1, 6, 0), (5, 34, 30, 1, 0, 1), (5, 41, 31, 2, 5, 0), (5, 45, 34, 3, 0, 1), (5, 49, 35, 2, 6, 0), (5, 53, 32, 2, 6, 0), (6, 3, 9000, 0, 0, 3), (6, 19, 33, 2, 0, 1)]
theorem am_mk_5_ok : ∀ q ∈ am_mk_5, am_mkP q := List.forall_mem_cons.mpr ⟨am_mkr_3_74, List.forall_mem_cons.mpr ⟨am_mkr_3_77, List.forall_mem_cons.mpr ⟨am_mkr_3_80, List.forall_mem_cons.mpr ⟨am_mkr_3_84, List.forall_mem_cons.mpr ⟨am_mkr_3_87, List.forall_mem_cons.mpr ⟨am_mkr_3_92, List.forall_mem_cons.mpr ⟨am_mkr_3_97, List.forall_mem_cons.mpr ⟨am_mkr_4_1, List.forall_mem_cons.mpr ⟨am_mkr_4_17, List.forall_mem_cons.mpr ⟨am_mkr_4_23, List.forall_mem_cons.mpr ⟨am_mkr_5_3, List.forall_mem_cons.mpr ⟨am_mkr_5_11, List.forall_mem_cons.mpr ⟨am_mkr_5_22, List.forall_mem_cons.mpr ⟨am_mkr_5_34, List.forall_mem_cons.mpr ⟨am_mkr_5_41, List.forall_mem_cons.mpr ⟨am_mkr_5_45, List.forall_mem_cons.mpr ⟨am_mkr_5_49, List.forall_mem_cons.mpr ⟨am_mkr_5_53, List.forall_mem_cons.mpr ⟨am_mkr_6_3, List.forall_mem_cons.mpr ⟨am_mkr_6_19, fun _ h => absurd h List.not_mem_nil⟩⟩⟩⟩⟩⟩⟩⟩⟩⟩⟩⟩⟩⟩⟩⟩⟩⟩⟩⟩
def am_mk_6 : List (Nat × Nat × Nat × Nat × Nat × Nat) := [(6, 23, 34, 3, 0, 1), (6, 27, 9001, 0, 0, 4), (6, 33, 44, 2, 0, 1), (6, 39, 9003, 0, 0, 7), (6, 45, 80, 2, 6, 0), (6, 49, 58, 3, 6, 0), (6, 52, 53, 2, 6, 0), (6, 55, 32, 2, 6, 0), (6, 58, 46, 2, 0, 1), (6, 61, 54, 2, 0, 1), (7, 1, 9000, 0, 0, 3), (7, 55, 134, 3, 0, 1), (7, 59, 133, 1, 0, 1), (7, 63, 135, 2, 7, 0), (7, 67, 137, 3, 7, 0), (7, 71, 138, 2, 7, 0), (7, 74, 142, 4, 7, 0), (7, 77, 145, 1, 0, 1), (7, 83, 149, 3, 7, 0), (7, 86, 150, 1, 0, 1)]
theorem am_mk_6_ok : ∀ q ∈ am_mk_6, am_mkP q := List.forall_mem_cons.mpr ⟨am_mkr_6_23, List.forall_mem_cons.mpr ⟨am_mkr_6_27, List.forall_mem_cons.mpr ⟨am_mkr_6_33, List.forall_mem_cons.mpr ⟨am_mkr_6_39, List.forall_mem_cons.mpr ⟨am_mkr_6_45, List.forall_mem_cons.mpr ⟨am_mkr_6_49, List.forall_mem_cons.mpr ⟨am_mkr_6_52, List.forall_mem_cons.mpr ⟨am_mkr_6_55, List.forall_mem_cons.mpr ⟨am_mkr_6_58, List.forall_mem_cons.mpr ⟨am_mkr_6_61, List.forall_mem_cons.mpr ⟨am_mkr_7_1, List.forall_mem_cons.mpr ⟨am_mkr_7_55, List.forall_mem_cons.mpr ⟨am_mkr_7_59, List.forall_mem_cons.mpr ⟨am_mkr_7_63, List.forall_mem_cons.mpr ⟨am_mkr_7_67, List.forall_mem_cons.mpr ⟨am_mkr_7_71, List.forall_mem_cons.mpr ⟨am_mkr_7_74, List.forall_mem_cons.mpr ⟨am_mkr_7_77, List.forall_mem_cons.mpr ⟨am_mkr_7_83, List.forall_mem_cons.mpr ⟨am_mkr_7_86, fun _ h => absurd h List.not_mem_nil⟩⟩⟩⟩⟩⟩⟩⟩⟩⟩⟩⟩⟩⟩⟩⟩⟩⟩⟩⟩
def am_mk_7 : List (Nat × Nat × Nat × Nat × Nat × Nat) := [(7, 89, 151, 2, 7, 0), (7, 92, 148, 2, 7, 0), (7, 98, 156, 2, 0, 1), (7, 101, 154, 2, 7, 0), (7, 104, 155, 1, 0, 1), (7, 107, 158, 2, 0, 1), (7, 110, 159, 2, 7, 0), (7, 113, 160, 2, 7, 0), (7, 116, 164, 2, 7, 0), (7, 119, 165, 2, 7, 0), (7, 122, 166, 2, 0, 1), (7, 126, 163, 3, 7, 0), (7, 129, 170, 2, 7, 0), (7, 133, 168, 4, 7, 0), (7, 137, 162, 1, 0, 1), (7, 140, 167, 1, 7, 0), (7, 143, 169, 3, 7, 0), (7, 147, 173, 3, 7, 0), (7, 150, 179, 2, 7, 0), (7, 153, 181, 4, 7, 0)]
theorem am_mk_7_ok : ∀ q ∈ am_mk_7, am_mkP q := List.forall_mem_cons.mpr ⟨am_mkr_7_89, List.forall_mem_cons.mpr ⟨am_mkr_7_92, List.forall_mem_cons.mpr ⟨am_mkr_7_98, List.forall_mem_cons.mpr ⟨am_mkr_7_101, List.forall_mem_cons.mpr ⟨am_mkr_7_104, List.forall_mem_cons.mpr ⟨am_mkr_7_107, List.forall_mem_cons.mpr ⟨am_mkr_7_110, List.forall_mem_cons.mpr ⟨am_mkr_7_113, List.forall_mem_cons.mpr ⟨am_mkr_7_116, List.forall_mem_cons.mpr ⟨am_mkr_7_119, List.forall_mem_cons.mpr ⟨am_mkr_7_122, List.forall_mem_cons.mpr ⟨am_mkr_7_126, List.forall_mem_cons.mpr ⟨am_mkr_7_129, List.forall_mem_cons.mpr ⟨am_mkr_7_133, List.forall_mem_cons.mpr ⟨am_mkr_7_137, List.forall_mem_cons.mpr ⟨am_mkr_7_140, List.forall_mem_cons.mpr ⟨am_mkr_7_143, List.forall_mem_cons.mpr ⟨am_mkr_7_147, List.forall_mem_cons.mpr ⟨am_mkr_7_150, List.forall_mem_cons.mpr ⟨am_mkr_7_153, fun _ h => absurd h List.not_mem_nil⟩⟩⟩⟩⟩⟩⟩⟩⟩⟩⟩⟩⟩⟩⟩⟩⟩⟩⟩⟩
def am_mk_8 : List (Nat × Nat × Nat × Nat × Nat × Nat) := [(7, 157, 182, 1, 7, 0), (7, 160, 183, 2, 7, 0), (7, 163, 185, 1, 7, 0), (7, 167, 188, 2, 0, 1), (7, 170, 190, 3, 0, 1), (7, 174, 187, 1, 0, 1), (7, 177, 189, 3, 7, 0), (7, 180, 191, 2, 7, 0), (7, 186, 195, 3, 7, 0), (7, 189, 196, 2, 7, 0), (7, 192, 198, 2, 0, 1), (7, 196, 200, 1, 0, 1), (7, 199, 202, 2, 7, 0), (7, 202, 203, 3, 7, 0), (7, 205, 201, 4, 7, 0), (7, 208, 206, 3, 7, 0), (7, 213, 207, 3, 7, 0), (7, 216, 208, 4, 7, 0), (7, 220, 209, 3, 7, 0), (7, 224, 205, 4, 7, 0)]
theorem am_mk_8_ok : ∀ q ∈ am_mk_8, am_mkP q := List.forall_mem_cons.mpr ⟨am_mkr_7_157, List.forall_mem_cons.mpr ⟨am_mkr_7_160, List.forall_mem_cons.mpr ⟨am_mkr_7_163, List.forall_mem_cons.mpr ⟨am_mkr_7_167, List.forall_mem_cons.mpr ⟨am_mkr_7_170, List.forall_mem_cons.mpr ⟨am_mkr_7_174, List.forall_mem_cons.mpr ⟨am_mkr_7_177, List.forall_mem_cons.mpr ⟨am_mkr_7_180, List.forall_mem_cons.mpr ⟨am_mkr_7_186, List.forall_mem_cons.mpr ⟨am_mkr_7_189, List.forall_mem_cons.mpr ⟨am_mkr_7_192, List.forall_mem_cons.mpr ⟨am_mkr_7_196, List.forall_mem_cons.mpr ⟨am_mkr_7_199, List.forall_mem_cons.mpr ⟨am_mkr_7_202, List.forall_mem_cons.mpr ⟨am_mkr_7_205, List.forall_mem_cons.mpr ⟨am_mkr_7_208, List.forall_mem_cons.mpr ⟨am_mkr_7_213, List.forall_mem_cons.mpr ⟨am_mkr_7_216, List.forall_mem_cons.mpr ⟨am_mkr_7_220, List.forall_mem_cons.mpr ⟨am_mkr_7_224, fun _ h => absurd h List.not_mem_nil⟩⟩⟩⟩⟩⟩⟩⟩⟩⟩⟩⟩⟩⟩⟩⟩⟩⟩⟩⟩
def am_mk_9 : List (Nat × Nat × Nat × Nat × Nat × Nat) := [(7, 233, 212, 2, 7, 0), (7, 236, 217, 1, 7, 0), (7, 240, 218, 3, 7, 0), (7, 243, 219, 2, 0, 1), (7, 251, 216, 2, 7, 0), (8, 24, 44, 2, 0, 1), (8, 28, 9002, 0, 0, 6), (8, 34, 46, 2, 0, 1), (8, 37, 100, 2, 0, 1), (8, 50, 103, 2, 0, 1), (8, 53, 104, 3, 0, 1)]
theorem am_mk_9_ok : ∀ q ∈ am_mk_9, am_mkP q := List.forall_mem_cons.mpr ⟨am_mkr_7_233, List.forall_mem_cons.mpr ⟨am_mkr_7_236, List.forall_mem_cons.mpr ⟨am_mkr_7_240, List.forall_mem_cons.mpr ⟨am_mkr_7_243, List.forall_mem_cons.mpr ⟨am_mkr_7_251, List.forall_mem_cons.mpr ⟨am_mkr_8_24, List.forall_mem_cons.mpr ⟨am_mkr_8_28, List.forall_mem_cons.mpr ⟨am_mkr_8_34, List.forall_mem_cons.mpr ⟨am_mkr_8_37, List.forall_mem_cons.mpr ⟨am_mkr_8_50, List.forall_mem_cons.mpr ⟨am_mkr_8_53, fun _ h => absurd h List.not_mem_nil⟩⟩⟩⟩⟩⟩⟩⟩⟩⟩⟩
def am_mk : List (Nat × Nat × Nat × Nat × Nat × Nat) := am_mk_0 ++ (am_mk_1 ++ (am_mk_2 ++ (am_mk_3 ++ (am_mk_4 ++ (am_mk_5 ++ (am_mk_6 ++ (am_mk_7 ++ (am_mk_8 ++ (am_mk_9)))))))))
theorem am_mk_ok : ∀ q ∈ am_mk, am_mkP q := fun q h => by unfold am_mk at h; exact (List.mem_append.mp h).elim (am_mk_0_ok q) (fun h => (List.mem_append.mp h).elim (am_mk_1_ok q) (fun h => (List.mem_append.mp h).elim (am_mk_2_ok q) (fun h => (List.mem_append.mp h).elim (am_mk_3_ok q) (fun h => (List.mem_append.mp h).elim (am_mk_4_ok q) (fun h => (List.mem_append.mp h).elim (am_mk_5_ok q) (fun h => (List.mem_append.mp h).elim (am_mk_6_ok q) (fun h => (List.mem_append.mp h).elim (am_mk_7_ok q) (fun h => (List.mem_append.mp h).elim (am_mk_8_ok q) (fun h => am_mk_9_ok q h)))))))))
end
section
/-! ===== an abstract machine: cells by handles, a code table, what one instruction asks ===== -/
/-- a cell: an array of ints (0), bytes (1), Sheets (2), Evenings (3); an object of a class by its number -/
abbrev Am_C : Type := (Nat × vp_A) ⊕ (Nat × List Value)
def am_ft (t : Nat) : FieldType := match t with
  | 0 => .int
  | 1 => .byte
  | 2 => .object "ThingsThrown$Sheet"
  | _ => .object "ThingsThrown$Evening"
abbrev Am_X : Type := va_G × (FieldType → ClassId) × (Nat → Nat) × (Nat → Nat)
def am_v (K : Am_X) : Value → Value
  | .ref k => .ref (K.2.2.1 k)
  | .retAddr k => .ref (K.2.2.2 k)
  | .int x => .int x
  | .long x => .long x
  | .float x => .float x
  | .double x => .double x
  | .null => .null
def am_vA (K : Am_X) (a : vp_A) : vp_A := (a.1, match a.2 with
  | .inr (.inr (.inr (.inr f))) => .inr (.inr (.inr (.inr (fun j => (f j).map K.2.2.1))))
  | .inl f => .inl f
  | .inr (.inl f) => .inr (.inl f)
  | .inr (.inr (.inl f)) => .inr (.inr (.inl f))
  | .inr (.inr (.inr (.inl f))) => .inr (.inr (.inr (.inl f))))
def am_c (K : Am_X) : Am_C → va_E
  | .inl (t, a) => .inl (K.2.1 (am_ft t), am_vA K a)
  | .inr (ci, fs) => .inr (ci, fs.map (am_v K))
def am_w (K : Am_X) (hp : List Am_C) : va_W := hp.mapIdx (fun k c => (K.2.2.1 k, am_c K c))
theorem am_w_at {K : Am_X} {hp : List Am_C} {k : Nat} {c : Am_C} (h : hp[k]? = some c) : (am_w K hp)[k]? = some (K.2.2.1 k, am_c K c) := by
  simp [am_w, List.getElem?_mapIdx, h]
theorem am_w_inv {K : Am_X} {hp : List Am_C} {k : Nat} {q : Nat × va_E} (h : (am_w K hp)[k]? = some q) : ∃ c, hp[k]? = some c ∧ q = (K.2.2.1 k, am_c K c) := by
  simp only [am_w, List.getElem?_mapIdx, Option.map_eq_some_iff] at h
  obtain ⟨c, h1, h2⟩ := h
  exact ⟨c, h1, h2.symm⟩
theorem am_w_set {K : Am_X} {hp : List Am_C} {k : Nat} {c : Am_C} : (am_w K hp).set k (K.2.2.1 k, am_c K c) = am_w K (hp.set k c) := by
  apply List.ext_getElem?
  intro j
  by_cases hj : k = j
  · subst hj
    by_cases hl : k < hp.length
    · simp [am_w, List.getElem?_mapIdx, hl]
    · simp [am_w, List.getElem?_mapIdx, hl]
  · simp [am_w, List.getElem?_mapIdx, hj]
theorem am_w_app {K : Am_X} {hp : List Am_C} {c : Am_C} : am_w K (hp ++ [c]) = am_w K hp ++ [(K.2.2.1 hp.length, am_c K c)] := by
  simp [am_w, List.mapIdx_append]
theorem am_cat (K : Am_X) (v : Value) : (am_v K v).category = v.category := by cases v <;> rfl
theorem am_cats (K : Am_X) (st : List Value) : ((st.map (am_v K)).map fun v => v.category) = st.map fun v => v.category := by
  rw [List.map_map]
  apply List.map_congr_left
  intro v _
  exact am_cat K v
/-! locals -/
def am_R (K : Am_X) (ls : Array Slot) (nL : Nat) (loc : List (Option Value)) : Prop := ls.size = nL ∧ lv_wf ls ∧ loc.length = nL ∧ ∀ (i : Nat) (v : Value), loc[i]? = some (some v) → ls[i]? = some (.val (am_v K v))
def am_all (K : Am_X) (loc : List (Option Value)) : List (Nat × Value) := (List.range loc.length).filterMap (fun i => match loc[i]? with
  | some (some v) => some (i, am_v K v)
  | _ => none)
theorem am_all_in {K : Am_X} {loc : List (Option Value)} {i : Nat} {v : Value} (h : loc[i]? = some (some v)) : (i, am_v K v) ∈ am_all K loc := by
  refine List.mem_filterMap.mpr ⟨i, List.mem_range.mpr (List.getElem?_eq_some_iff.mp h).1, ?_⟩
  simp [h]
theorem am_R_has {K : Am_X} {ls : Array Slot} {nL : Nat} {loc : List (Option Value)} (h : am_R K ls nL loc) : lv_has ls nL (am_all K loc) := by
  refine ⟨h.1, h.2.1, fun q hq => ?_⟩
  obtain ⟨i, -, hi⟩ := List.mem_filterMap.mp hq
  split at hi
  · next v hv =>
    cases hi
    exact h.2.2.2 i v hv
  · cases hi
def am_clr (loc : List (Option Value)) (i : Nat) : List (Option Value) := match i with
  | 0 => loc
  | j + 1 => match loc[j]? with
    | some (some (.long _)) => loc.set j none
    | some (some (.double _)) => loc.set j none
    | _ => loc
theorem am_clr_len (loc : List (Option Value)) (i : Nat) : (am_clr loc i).length = loc.length := by
  unfold am_clr
  split
  · rfl
  · split <;> simp
theorem am_clr_at {loc : List (Option Value)} {i j : Nat} {v : Value} (h : (am_clr loc i)[j]? = some (some v)) : loc[j]? = some (some v) ∧ ¬ (j + 1 = i ∧ v.category = 2) := by
  unfold am_clr at h
  split at h
  · exact ⟨h, fun q => by omega⟩
  · next n =>
    split at h
    · next x hx =>
      by_cases hj : n = j
      · subst hj
        rw [List.getElem?_set] at h
        split at h
        · split at h <;> cases h
        · next q => exact absurd rfl q
      · rw [List.getElem?_set_ne hj] at h
        exact ⟨h, fun q => by omega⟩
    · next x hx =>
      by_cases hj : n = j
      · subst hj
        rw [List.getElem?_set] at h
        split at h
        · split at h <;> cases h
        · next q => exact absurd rfl q
      · rw [List.getElem?_set_ne hj] at h
        exact ⟨h, fun q => by omega⟩
    · next hn1 hn2 =>
      refine ⟨h, fun q => ?_⟩
      have hj : j = n := by omega
      subst hj
      cases v with
      | long x => exact hn1 x h
      | double x => exact hn2 x h
      | _ => exact absurd q.2 (by simp [Value.category])
def am_s1 (loc : List (Option Value)) (i : Nat) (v : Value) : List (Option Value) := (am_clr loc i).set i (some v)
def am_s2 (loc : List (Option Value)) (i : Nat) (v : Value) : List (Option Value) := ((am_clr loc i).set i (some v)).set (i + 1) none
theorem am_R_s1 {K : Am_X} {ls ls' : Array Slot} {nL i : Nat} {loc : List (Option Value)} {v : Value} (h : am_R K ls nL loc) (h2 : lv_has ls' nL ((i, am_v K v) :: (am_all K loc).filter (fun q => !(q.1 == i) && !(q.1 + 1 == i && q.2.category == 2)))) : am_R K ls' nL (am_s1 loc i v) := by
  refine ⟨h2.1, h2.2.1, by rw [am_s1, List.length_set, am_clr_len]; exact h.2.2.1, fun j w hj => ?_⟩
  unfold am_s1 at hj
  by_cases hij : i = j
  · subst hij
    have hl := (List.getElem?_eq_some_iff.mp hj).1
    rw [List.length_set] at hl
    rw [List.getElem?_set_self hl] at hj
    cases hj
    exact h2.2.2 (i, am_v K v) List.mem_cons_self
  · rw [List.getElem?_set_ne hij] at hj
    obtain ⟨h3, h4⟩ := am_clr_at hj
    refine h2.2.2 (j, am_v K w) (List.mem_cons_of_mem _ (List.mem_filter.mpr ⟨am_all_in h3, ?_⟩))
    have e1 : (j == i) = false := by simp; omega
    simp only [e1, am_cat, Bool.not_false, Bool.true_and, Bool.not_eq_true', Bool.and_eq_false_iff, beq_eq_false_iff_ne, ne_eq]
    by_cases h5 : j + 1 = i
    · exact Or.inr (fun h6 => h4 ⟨h5, h6⟩)
    · exact Or.inl h5
theorem am_R_s2 {K : Am_X} {ls ls' : Array Slot} {nL i : Nat} {loc : List (Option Value)} {v : Value} (h : am_R K ls nL loc) (h2 : lv_has ls' nL ((i, am_v K v) :: (am_all K loc).filter (fun q => !(q.1 == i) && (!(q.1 == i + 1) && !(q.1 + 1 == i && q.2.category == 2))))) : am_R K ls' nL (am_s2 loc i v) := by
  refine ⟨h2.1, h2.2.1, by rw [am_s2, List.length_set, List.length_set, am_clr_len]; exact h.2.2.1, fun j w hj => ?_⟩
  unfold am_s2 at hj
  by_cases hi1 : i + 1 = j
  · subst hi1
    rw [List.getElem?_set] at hj
    split at hj
    · split at hj
      · cases hj
      · cases hj
    · next q => exact absurd rfl q
  rw [List.getElem?_set_ne hi1] at hj
  by_cases hij : i = j
  · subst hij
    have hl := (List.getElem?_eq_some_iff.mp hj).1
    rw [List.length_set] at hl
    rw [List.getElem?_set_self hl] at hj
    cases hj
    exact h2.2.2 (i, am_v K v) List.mem_cons_self
  · rw [List.getElem?_set_ne hij] at hj
    obtain ⟨h3, h4⟩ := am_clr_at hj
    refine h2.2.2 (j, am_v K w) (List.mem_cons_of_mem _ (List.mem_filter.mpr ⟨am_all_in h3, ?_⟩))
    have e1 : (j == i) = false := by simp; omega
    have e2 : (j == i + 1) = false := by simp; omega
    simp only [e1, e2, am_cat, Bool.not_false, Bool.true_and, Bool.not_eq_true', Bool.and_eq_false_iff, beq_eq_false_iff_ne, ne_eq]
    by_cases h5 : j + 1 = i
    · exact Or.inr (fun h6 => h4 ⟨h5, h6⟩)
    · exact Or.inl h5
def am_l0 : List Value → List (Option Value)
  | [] => []
  | v :: vs => match v with
    | .long x => some (.long x) :: none :: am_l0 vs
    | .double x => some (.double x) :: none :: am_l0 vs
    | v => some v :: am_l0 vs
theorem am_l0_len (K : Am_X) : ∀ vs : List Value, (am_l0 vs).length = (lg_sl (vs.map (am_v K))).length
  | [] => rfl
  | v :: vs => by
    have ih := am_l0_len K vs
    cases v <;> simp_all [am_l0, lg_sl, am_v, Value.category] <;> omega
theorem am_l0_in (K : Am_X) : ∀ (vs : List Value) (o i : Nat) (v : Value), (am_l0 vs)[i]? = some (some v) → (o + i, am_v K v) ∈ lv_args o (vs.map (am_v K))
  | [], o, i, v, h => by simp [am_l0] at h
  | x :: vs, o, i, v, h => by
    have ih := am_l0_in K vs
    cases x with
    | long z =>
      match i, h with
      | 0, h => simp [am_l0] at h; subst h; simp [lv_args]
      | 1, h => simp [am_l0] at h
      | i + 2, h =>
        have h1 : (am_l0 vs)[i]? = some (some v) := by simpa [am_l0] using h
        have h2 := ih (o + 2) i v h1
        have e : o + 2 + i = o + (i + 2) := by omega
        rw [e] at h2
        exact List.mem_cons_of_mem _ h2
    | double z =>
      match i, h with
      | 0, h => simp [am_l0] at h; subst h; simp [lv_args]
      | 1, h => simp [am_l0] at h
      | i + 2, h =>
        have h1 : (am_l0 vs)[i]? = some (some v) := by simpa [am_l0] using h
        have h2 := ih (o + 2) i v h1
        have e : o + 2 + i = o + (i + 2) := by omega
        rw [e] at h2
        exact List.mem_cons_of_mem _ h2
    | _ =>
      match i, h with
      | 0, h => simp [am_l0] at h; subst h; simp [lv_args]
      | i + 1, h =>
        have h1 : (am_l0 vs)[i]? = some (some v) := by simpa [am_l0] using h
        have h2 := ih (o + 1) i v h1
        have e : o + 1 + i = o + (i + 1) := by omega
        rw [e] at h2
        exact List.mem_cons_of_mem _ h2
def am_loc (n : Nat) (vs : List Value) : List (Option Value) := am_l0 vs ++ List.replicate (n - (am_l0 vs).length) none
theorem am_R_entry (K : Am_X) (vs : List Value) {n : Nat} (h : (am_l0 vs).length ≤ n) : am_R K ((lg_sl (vs.map (am_v K)) ++ List.replicate (n - (lg_sl (vs.map (am_v K))).length) Slot.unset).toArray) n (am_loc n vs) := by
  have h0 : (lg_sl (vs.map (am_v K))).length ≤ n := by rw [← am_l0_len]; exact h
  have h1 := lv_entry (vs.map (am_v K)) h0
  refine ⟨h1.1, h1.2.1, by simp [am_loc]; omega, fun i v hi => ?_⟩
  unfold am_loc at hi
  by_cases hl : i < (am_l0 vs).length
  · rw [List.getElem?_append_left hl] at hi
    have h2 := am_l0_in K vs 0 i v hi
    rw [Nat.zero_add] at h2
    exact h1.2.2 (i, am_v K v) h2
  · rw [List.getElem?_append_right (by omega), List.getElem?_replicate] at hi
    split at hi <;> cases hi
end
section
/-! ===== what one instruction asks of what follows ===== -/
abbrev Am_E : Type := Nat × Instr × Nat × Nat × Nat × Nat
abbrev Am_K : Type := Nat → List (Option Value) → List Value → List Am_C → Nat → Nat → Prop
def am_lk : List Am_E → Nat → Option (Instr × Nat × Nat × Nat × Nat)
  | [], _ => none
  | e :: t, pc => bif Nat.beq e.1 pc then some e.2 else am_lk t pc
def am_i1 (st : List Value) (q : Int32 → List Value → Prop) : Prop := match st with
  | .int x :: r => q x r
  | _ => False
def am_i2 (st : List Value) (q : Int32 → Int32 → List Value → Prop) : Prop := match st with
  | .int y :: .int x :: r => q x y r
  | _ => False
def am_j1 (st : List Value) (q : Int64 → List Value → Prop) : Prop := match st with
  | .long x :: r => q x r
  | _ => False
def am_j2 (st : List Value) (q : Int64 → Int64 → List Value → Prop) : Prop := match st with
  | .long y :: .long x :: r => q x y r
  | _ => False
def am_r1 (st : List Value) (q : Nat → List Value → Prop) : Prop := match st with
  | .ref x :: r => q x r
  | _ => False
theorem am_i1e {st : List Value} {q : Int32 → List Value → Prop} (h : am_i1 st q) : ∃ x r, st = .int x :: r ∧ q x r := by
  unfold am_i1 at h
  split at h
  · exact ⟨_, _, rfl, h⟩
  · exact h.elim
theorem am_i2e {st : List Value} {q : Int32 → Int32 → List Value → Prop} (h : am_i2 st q) : ∃ x y r, st = .int y :: .int x :: r ∧ q x y r := by
  unfold am_i2 at h
  split at h
  · exact ⟨_, _, _, rfl, h⟩
  · exact h.elim
theorem am_j1e {st : List Value} {q : Int64 → List Value → Prop} (h : am_j1 st q) : ∃ x r, st = .long x :: r ∧ q x r := by
  unfold am_j1 at h
  split at h
  · exact ⟨_, _, rfl, h⟩
  · exact h.elim
theorem am_j2e {st : List Value} {q : Int64 → Int64 → List Value → Prop} (h : am_j2 st q) : ∃ x y r, st = .long y :: .long x :: r ∧ q x y r := by
  unfold am_j2 at h
  split at h
  · exact ⟨_, _, _, rfl, h⟩
  · exact h.elim
theorem am_r1e {st : List Value} {q : Nat → List Value → Prop} (h : am_r1 st q) : ∃ x r, st = .ref x :: r ∧ q x r := by
  unfold am_r1 at h
  split at h
  · exact ⟨_, _, rfl, h⟩
  · exact h.elim
/-- a number out of the table's two places -/
def am_n (b a : Nat) (q : Int32 → Prop) : Prop := match b with
  | 0 => q (nI a)
  | _ => q (-nI a)
def am_nv (b a : Nat) : Int32 := match b with
  | 0 => nI a
  | _ => -nI a
theorem am_ne {b a : Nat} {q : Int32 → Prop} (h : am_n b a q) : q (am_nv b a) := by
  unfold am_n at h
  unfold am_nv
  split at h <;> exact h
def am_ld (loc : List (Option Value)) (i : Nat) (q : Value → Prop) : Prop := match loc[i]? with
  | some (some v) => q v
  | _ => False
theorem am_lde {loc : List (Option Value)} {i : Nat} {q : Value → Prop} (h : am_ld loc i q) : ∃ v, loc[i]? = some (some v) ∧ q v := by
  unfold am_ld at h
  split at h
  · next v hv => exact ⟨v, hv, h⟩
  · exact h.elim
def am_isI : Value → Bool
  | .int _ => true
  | _ => false
def am_isL : Value → Bool
  | .long _ => true
  | _ => false
def am_isR : Value → Bool
  | .ref _ => true
  | .retAddr _ => true
  | _ => false
theorem am_isIe {v : Value} (h : am_isI v = true) : ∃ x, v = .int x := by cases v <;> first | exact ⟨_, rfl⟩ | cases h
theorem am_isLe {v : Value} (h : am_isL v = true) : ∃ x, v = .long x := by cases v <;> first | exact ⟨_, rfl⟩ | cases h
theorem am_isRe {v : Value} (K : Am_X) (h : am_isR v = true) : ∃ x, am_v K v = .ref x := by cases v <;> first | exact ⟨_, rfl⟩ | cases h
/-- the array of ints, of bytes, of references at a handle -/
def am_ai (hp : List Am_C) (h : Nat) (q : Nat → (Nat → Int32) → Prop) : Prop := match hp[h]? with
  | some (.inl (0, n, .inl f)) => bif Nat.ble n 4096 then q n f else False
  | _ => False
def am_ab (hp : List Am_C) (h : Nat) (q : Nat → (Nat → Int32) → Prop) : Prop := match hp[h]? with
  | some (.inl (1, n, .inl f)) => bif Nat.ble n 4096 then q n f else False
  | _ => False
def am_ar (hp : List Am_C) (h : Nat) (q : Nat → Nat → (Nat → Option Nat) → Prop) : Prop := match hp[h]? with
  | some (.inl (t, n, .inr (.inr (.inr (.inr f))))) => bif Nat.ble n 4096 && (Nat.beq t 2 || Nat.beq t 3) then q t n f else False
  | _ => False
def am_ob (hp : List Am_C) (h : Nat) (q : Nat → List Value → Prop) : Prop := match hp[h]? with
  | some (.inr (ci, fs)) => q ci fs
  | _ => False
theorem am_aie {hp : List Am_C} {h : Nat} {q : Nat → (Nat → Int32) → Prop} (e : am_ai hp h q) : ∃ n f, hp[h]? = some (.inl (0, n, .inl f)) ∧ n ≤ 4096 ∧ q n f := by
  unfold am_ai at e
  split at e
  · next n f hv =>
    cases hb : Nat.ble n 4096 with
    | true => rw [hb] at e; exact ⟨n, f, hv, Nat.le_of_ble_eq_true hb, e⟩
    | false => rw [hb] at e; exact e.elim
  · exact e.elim
theorem am_abe {hp : List Am_C} {h : Nat} {q : Nat → (Nat → Int32) → Prop} (e : am_ab hp h q) : ∃ n f, hp[h]? = some (.inl (1, n, .inl f)) ∧ n ≤ 4096 ∧ q n f := by
  unfold am_ab at e
  split at e
  · next n f hv =>
    cases hb : Nat.ble n 4096 with
    | true => rw [hb] at e; exact ⟨n, f, hv, Nat.le_of_ble_eq_true hb, e⟩
    | false => rw [hb] at e; exact e.elim
  · exact e.elim
theorem am_are {hp : List Am_C} {h : Nat} {q : Nat → Nat → (Nat → Option Nat) → Prop} (e : am_ar hp h q) : ∃ t n f, hp[h]? = some (.inl (t, n, .inr (.inr (.inr (.inr f))))) ∧ n ≤ 4096 ∧ (t = 2 ∨ t = 3) ∧ q t n f := by
  unfold am_ar at e
  split at e
  · next t n f hv =>
    cases hb : Nat.ble n 4096 && (Nat.beq t 2 || Nat.beq t 3) with
    | true =>
      rw [hb] at e
      simp only [Bool.and_eq_true, Bool.or_eq_true] at hb
      exact ⟨t, n, f, hv, Nat.le_of_ble_eq_true hb.1, hb.2.imp Nat.eq_of_beq_eq_true Nat.eq_of_beq_eq_true, e⟩
    | false => rw [hb] at e; exact e.elim
  · exact e.elim
theorem am_obe {hp : List Am_C} {h : Nat} {q : Nat → List Value → Prop} (e : am_ob hp h q) : ∃ ci fs, hp[h]? = some (.inr (ci, fs)) ∧ q ci fs := by
  unfold am_ob at e
  split at e
  · next ci fs hv => exact ⟨ci, fs, hv, e⟩
  · exact e.elim
def am_t (b : Bool) (q : Prop) : Prop := bif b then q else False
theorem am_te {b : Bool} {q : Prop} (h : am_t b q) : b = true ∧ q := by
  unfold am_t at h
  cases b with
  | true => exact ⟨rfl, h⟩
  | false => exact h.elim
/-- a value fits a field -/
def am_fit : FieldType → Value → Bool
  | .int, .int _ => true
  | .long, .long _ => true
  | .object _, .ref _ => true
  | .array _, .ref _ => true
  | _, _ => false
theorem am_fite {K : Am_X} {ty : FieldType} {v : Value} (h : am_fit ty v = true) : narrow ty (am_v K v) = am_v K v ∧ fits ty (am_v K v) = true := by
  cases ty <;> cases v <;> first | exact ⟨rfl, rfl⟩ | cases h
/-- the static tables: numbers 0 to 3 -/
def am_tab (t : Nat) : Nat × (Nat → Int32) := match t with
  | 0 => (6, fun k => match k with | 0 => nI 98 | 1 => nI 99 | 2 => nI 102 | 3 => nI 108 | 4 => nI 116 | _ => nI 97)
  | 1 => (6, fun k => match k with | 0 => nI 0 | 1 => nI 0 | 2 => nI 0 | 3 => nI 0 | 4 => nI 1 | _ => nI 3)
  | 2 => (6, fun k => match k with | 0 => nI 1 | 1 => nI 1 | 2 => nI 1 | 3 => nI 1 | 4 => nI 3 | _ => nI 1)
  | _ => (6, fun k => match k with | 0 => nI 7 | 1 => nI 7 | 2 => nI 7 | 3 => nI 7 | 4 => nI 7 | _ => nI 4)
def am_tabN (t : Nat) : String := match t with
  | 0 => "LETTERS"
  | 1 => "ABOVE"
  | 2 => "LOWEST"
  | _ => "HIGHEST"
def am_sw (x : Int32) (pc : Nat) (q : Nat → Prop) : Int → List Int → Prop
  | _, [] => True
  | lo, o :: os => (x.toInt = lo → q ((pc : Int) + o).toNat) ∧ am_sw x pc q (lo + 1) os
def am_lsw (x : Int32) (pc : Nat) (q : Nat → Prop) (dflt : Int) : List (Int × Int) → Prop
  | [] => q ((pc : Int) + dflt).toNat
  | (a, o) :: r => (x.toInt = a → q ((pc : Int) + o).toNat) ∧ (¬ x.toInt = a → am_lsw x pc q dflt r)
def am_rok (rt : Option FieldType) (v : Int32) : Prop := match rt with
  | some .int => True
  | some .boolean => v = nI 0 ∨ v = nI 1
  | _ => False
/-- the locals' list, spelled out -/
def am_nf : List (Option Value) → (List (Option Value) → Prop) → Prop
  | [], q => q []
  | x :: l, q => am_nf l (fun l' => q (x :: l'))
theorem am_nfe : ∀ (l : List (Option Value)) {q : List (Option Value) → Prop}, am_nf l q → q l
  | [], _, h => h
  | x :: l, q, h => am_nfe l (q := fun l' => q (x :: l')) h
def am_cs (st : List Value) : Nat := (st.map fun v => v.category).sum
def am_has (loc : List (Option Value)) (i : Nat) (q : Prop) : Prop := match loc[i]? with
  | some _ => q
  | none => False
theorem am_hase {loc : List (Option Value)} {i : Nat} {q : Prop} (h : am_has loc i q) : i < loc.length ∧ q := by
  unfold am_has at h
  split at h
  · next v hv => exact ⟨(List.getElem?_eq_some_iff.mp hv).1, h⟩
  · exact h.elim
end
section
/-! ===== contracts over the abstract machine ===== -/
def am_tys (K : Am_X) : List (ClassId × FieldType) := [(K.2.1 (am_ft 0), am_ft 0), (K.2.1 (am_ft 1), am_ft 1), (K.2.1 (am_ft 2), am_ft 2), (K.2.1 (am_ft 3), am_ft 3)]
def am_Tb (K : Am_X) (A : Nat → Prop) (U : State) (H : Heap) : Prop := ∀ t, t < 4 → va_T .int (K.2.2.2 t) (am_tab t).1 (fun j => .int ((am_tab t).2 j)) A U H ∧ va_Z "ThingsThrown$Kinds" (am_tabN t) "[I" (.ref (K.2.2.2 t)) A U H
def am_Nx (U : State) : Prop := (∀ (o : String) (i : Nat) (y : MethodName) (h : String), .methodLinkNest o i y h ∈ am_nest → va_Nw (.methodLinkNest o i y h) U) ∧ va_AO "ThingsThrown$Sheet" U ∧ va_AO "ThingsThrown$Evening" U
theorem am_Nx.warm {s U : State} (hW : s.WarmedH U.vm) (h : am_Nx s) : am_Nx U := ⟨fun o i y q hq => va_Nw.warmM hW (h.1 o i y q hq), h.2.1.moved hW.alike, h.2.2.moved hW.alike⟩
def am_fr (K : Am_X) (hp : List Am_C) (sz : Nat) : Nat → Prop := va_A (am_w K hp) sz
def am_rdy (K : Am_X) (hp : List Am_C) (al : Bool) (sz : Nat) : Prop := al = true → ∀ k, hp.length ≤ k → K.2.2.1 k = sz + (k - hp.length)
def am_Pre (al : Bool) (K : Am_X) (hp : List Am_C) (sz : Nat) (U : State) : Prop := U.heap.size = sz ∧ va_P K.1 am_cl (am_w K hp) U.heap ∧ va_K K.1 am_cl (am_tys K) U ∧ va_D (fun _ => True) (am_w K hp) ∧ am_Tb K (am_fr K hp sz) U U.heap ∧ am_Nx U ∧ am_rdy K hp al sz
def am_Post (K : Am_X) (hp hp' : List Am_C) (sz : Nat) (r : Option Value) : Array Value → State → Outcome → State → Prop := fun _ st oc t => oc = .returned (r.map (am_v K)) ∧ va_P K.1 am_cl (am_w K hp') t.heap ∧ va_D (am_fr K hp sz) (am_w K hp') ∧ va_F (am_fr K hp sz) st t
def am_rm (d mc ms : Nat) : Room := { frames := d, cells := mc, slots := ms, locals := 40 * d }
def am_ws (mi : Nat) : List Cond := .code (am_m mi).1 (am_m mi).2.1 (am_m mi).2.2.1 (am_m mi).2.2.2.1 :: am_TB
/-- the contract: from these arguments and cells the method answers r and leaves these cells -/
def Am_Ev (al : Bool) (d mc ms mi : Nat) (args : List Value) (hp : List Am_C) (r : Option Value) (hp' : List Am_C) : Prop := ∀ (l : Launch) (K : Am_X) (sz : Nat), Met l (am_m mi).1 (am_ws mi) (am_rm d mc ms) (va_Pc (args.map (am_v K)) (am_Pre al K hp sz)) (am_Post K hp hp' sz r) mc ms (am_fr K hp sz)
def am_tag (a : Nat) : Nat := match a with
  | 4 => 2
  | _ => 3
def am_rcv (ci : Nat) (v : Option Value) (hp : List Am_C) : Bool := match v with
  | some (.ref h) => match hp[h]? with
    | some (.inr (c, _)) => Nat.beq c ci
    | _ => false
  | _ => false
def am_stp (d mc ms : Nat) (al ini : Bool) (rt : Option FieldType) (post : Option Value → List Am_C → Nat → Nat → Prop) (k : Am_K) (i : Instr) (nx a b c pc : Nat) (loc : List (Option Value)) (st : List Value) (hp : List Am_C) (nc ns : Nat) : Prop := match i with
  | .iconst _ => am_n b a (fun v => k nx loc (.int v :: st) hp nc ns)
  | .bipush _ => am_n b a (fun v => k nx loc (.int v :: st) hp nc ns)
  | .sipush _ => am_n b a (fun v => k nx loc (.int v :: st) hp nc ns)
  | .ldc _ => am_n b a (fun v => k nx loc (.int v :: st) hp nc ns)
  | .ldc_w _ => am_n b a (fun v => k nx loc (.int v :: st) hp nc ns)
  | .lconst _ => k nx loc (.long (lN a) :: st) hp nc ns
  | .ldc2_w _ => k nx loc (.long (lN a) :: st) hp nc ns
  | .iload j => am_ld loc j (fun v => am_t (am_isI v) (k nx loc (v :: st) hp nc ns))
  | .iload_n j => am_ld loc j (fun v => am_t (am_isI v) (k nx loc (v :: st) hp nc ns))
  | .lload j => am_ld loc j (fun v => am_t (am_isL v) (k nx loc (v :: st) hp nc ns))
  | .lload_n j => am_ld loc j (fun v => am_t (am_isL v) (k nx loc (v :: st) hp nc ns))
  | .aload j => am_ld loc j (fun v => am_t (am_isR v) (k nx loc (v :: st) hp nc ns))
  | .aload_n j => am_ld loc j (fun v => am_t (am_isR v) (k nx loc (v :: st) hp nc ns))
  | .istore j => am_i1 st (fun x r => am_has loc j (am_nf (am_s1 loc j (.int x)) (fun loc' => k nx loc' r hp nc ns)))
  | .istore_n j => am_i1 st (fun x r => am_has loc j (am_nf (am_s1 loc j (.int x)) (fun loc' => k nx loc' r hp nc ns)))
  | .lstore j => am_j1 st (fun x r => am_has loc (j + 1) (am_nf (am_s2 loc j (.long x)) (fun loc' => k nx loc' r hp nc ns)))
  | .lstore_n j => am_j1 st (fun x r => am_has loc (j + 1) (am_nf (am_s2 loc j (.long x)) (fun loc' => k nx loc' r hp nc ns)))
  | .astore j => am_r1 st (fun x r => am_has loc j (am_nf (am_s1 loc j (.ref x)) (fun loc' => k nx loc' r hp nc ns)))
  | .astore_n j => am_r1 st (fun x r => am_has loc j (am_nf (am_s1 loc j (.ref x)) (fun loc' => k nx loc' r hp nc ns)))
  | .iinc j _ => am_ld loc j (fun v => am_i1 [v] (fun x _ => am_n b a (fun z => am_nf (am_s1 loc j (.int (x + z))) (fun loc' => k nx loc' st hp nc ns))))
  | .iadd => am_i2 st (fun x y r => k nx loc (.int (x + y) :: r) hp nc ns)
  | .isub => am_i2 st (fun x y r => k nx loc (.int (x - y) :: r) hp nc ns)
  | .imul => am_i2 st (fun x y r => k nx loc (.int (x * y) :: r) hp nc ns)
  | .iand => am_i2 st (fun x y r => k nx loc (.int (x &&& y) :: r) hp nc ns)
  | .ior => am_i2 st (fun x y r => k nx loc (.int (x ||| y) :: r) hp nc ns)
  | .ixor => am_i2 st (fun x y r => k nx loc (.int (x ^^^ y) :: r) hp nc ns)
  | .ishl => am_i2 st (fun x y r => k nx loc (.int (x <<< (y &&& 31)) :: r) hp nc ns)
  | .ishr => am_i2 st (fun x y r => k nx loc (.int (x >>> (y &&& 31)) :: r) hp nc ns)
  | .iushr => am_i2 st (fun x y r => k nx loc (.int (x.toUInt32 >>> (y.toUInt32 &&& Int32.toUInt32 31)).toInt32 :: r) hp nc ns)
  | .idiv => am_i2 st (fun x y r => ¬ y = 0 ∧ k nx loc (.int (x / y) :: r) hp nc ns)
  | .irem => am_i2 st (fun x y r => ¬ y = 0 ∧ k nx loc (.int (x - x / y * y) :: r) hp nc ns)
  | .ladd => am_j2 st (fun x y r => k nx loc (.long (x + y) :: r) hp nc ns)
  | .lmul => am_j2 st (fun x y r => k nx loc (.long (x * y) :: r) hp nc ns)
  | .ldiv => am_j2 st (fun x y r => ¬ y = 0 ∧ k nx loc (.long (x / y) :: r) hp nc ns)
  | .lrem => am_j2 st (fun x y r => ¬ y = 0 ∧ k nx loc (.long (x - x / y * y) :: r) hp nc ns)
  | .lcmp => am_j2 st (fun x y r => k nx loc (.int (lg_cmp x y) :: r) hp nc ns)
  | .i2l => am_i1 st (fun x r => k nx loc (.long x.toInt64 :: r) hp nc ns)
  | .l2i => am_j1 st (fun x r => k nx loc (.int x.toInt32 :: r) hp nc ns)
  | .i2b => am_i1 st (fun x r => k nx loc (.int x.toInt8.toInt32 :: r) hp nc ns)
  | .dup => match st with
    | v :: r => am_t (Nat.beq v.category 1) (k nx loc (v :: v :: r) hp nc ns)
    | _ => False
  | .pop => match st with
    | v :: r => am_t (Nat.beq v.category 1) (k nx loc r hp nc ns)
    | _ => False
  | .dup2 => match st with
    | v :: w :: r => am_t (Nat.beq v.category 1 && Nat.beq w.category 1) (k nx loc (v :: w :: v :: w :: r) hp nc ns)
    | _ => False
  | .goto _ => k a loc st hp nc ns
  | .ifCond .eq _ => am_i1 st (fun x r => (x = 0 → k a loc r hp nc ns) ∧ (¬ x = 0 → k nx loc r hp nc ns))
  | .ifCond .ne _ => am_i1 st (fun x r => (¬ x = 0 → k a loc r hp nc ns) ∧ (x = 0 → k nx loc r hp nc ns))
  | .ifCond .lt _ => am_i1 st (fun x r => (x < 0 → k a loc r hp nc ns) ∧ (¬ x < 0 → k nx loc r hp nc ns))
  | .ifCond .ge _ => am_i1 st (fun x r => (0 ≤ x → k a loc r hp nc ns) ∧ (¬ 0 ≤ x → k nx loc r hp nc ns))
  | .ifCond .gt _ => am_i1 st (fun x r => (0 < x → k a loc r hp nc ns) ∧ (¬ 0 < x → k nx loc r hp nc ns))
  | .ifCond .le _ => am_i1 st (fun x r => (x ≤ 0 → k a loc r hp nc ns) ∧ (¬ x ≤ 0 → k nx loc r hp nc ns))
  | .if_icmp .eq _ => am_i2 st (fun x y r => (x = y → k a loc r hp nc ns) ∧ (¬ x = y → k nx loc r hp nc ns))
  | .if_icmp .ne _ => am_i2 st (fun x y r => (¬ x = y → k a loc r hp nc ns) ∧ (x = y → k nx loc r hp nc ns))
  | .if_icmp .lt _ => am_i2 st (fun x y r => (x < y → k a loc r hp nc ns) ∧ (¬ x < y → k nx loc r hp nc ns))
  | .if_icmp .ge _ => am_i2 st (fun x y r => (y ≤ x → k a loc r hp nc ns) ∧ (¬ y ≤ x → k nx loc r hp nc ns))
  | .if_icmp .gt _ => am_i2 st (fun x y r => (y < x → k a loc r hp nc ns) ∧ (¬ y < x → k nx loc r hp nc ns))
  | .if_icmp .le _ => am_i2 st (fun x y r => (x ≤ y → k a loc r hp nc ns) ∧ (¬ x ≤ y → k nx loc r hp nc ns))
  | .tableswitch dflt lo hi offs => am_i1 st (fun x r => (x.toInt < lo ∨ hi < x.toInt → k ((pc : Int) + dflt).toNat loc r hp nc ns) ∧ am_sw x pc (fun t => k t loc r hp nc ns) lo offs.toList)
  | .lookupswitch dflt ps => am_i1 st (fun x r => am_lsw x pc (fun t => k t loc r hp nc ns) dflt ps.toList)
  | .getfield _ => am_r1 st (fun h r => am_ob hp h (fun ci fs => am_t (Nat.beq ci a) (match fs[b]? with
    | some v => k nx loc (v :: r) hp nc ns
    | none => False)))
  | .putfield _ => match st with
    | v :: .ref h :: r => am_ob hp h (fun ci fs => am_t (Nat.beq ci a && Nat.blt b fs.length && am_fit (am_Y a b) v && (!am_F a b || ini)) (k nx loc r (hp.set h (.inr (ci, fs.set b v))) nc ns))
    | _ => False
  | .getstatic _ => k nx loc (.retAddr a :: st) hp nc ns
  | .iaload => match st with
    | .int i :: .ref h :: r => am_ai hp h (fun n f => ∃ j, j < n ∧ i = nI j ∧ k nx loc (.int (f j) :: r) hp nc ns)
    | .int i :: .retAddr t :: r => am_t (Nat.blt t 4) (∃ j, j < 6 ∧ i = nI j ∧ k nx loc (.int ((am_tab t).2 j) :: r) hp nc ns)
    | _ => False
  | .baload => match st with
    | .int i :: .ref h :: r => am_ab hp h (fun n f => ∃ j, j < n ∧ i = nI j ∧ k nx loc (.int (f j) :: r) hp nc ns)
    | _ => False
  | .aaload => match st with
    | .int i :: .ref h :: r => am_ar hp h (fun _ n f => ∃ j q, j < n ∧ i = nI j ∧ f j = some q ∧ k nx loc (.ref q :: r) hp nc ns)
    | _ => False
  | .iastore => match st with
    | .int x :: .int i :: .ref h :: r => am_ai hp h (fun n f => ∃ j, j < n ∧ i = nI j ∧ k nx loc r (hp.set h (.inl (0, n, .inl (upd f j x)))) nc ns)
    | _ => False
  | .bastore => match st with
    | .int x :: .int i :: .ref h :: r => am_ab hp h (fun n f => ∃ j, j < n ∧ i = nI j ∧ k nx loc r (hp.set h (.inl (1, n, .inl (upd f j x.toInt8.toInt32)))) nc ns)
    | _ => False
  | .aastore => match st with
    | .ref v :: .int i :: .ref h :: r => am_ar hp h (fun t n f => am_ob hp v (fun ci _ => am_t ((Nat.beq t 2 && Nat.beq ci 4) || (Nat.beq t 3 && Nat.beq ci 2)) (∃ j, j < n ∧ i = nI j ∧ k nx loc r (hp.set h (.inl (t, n, .inr (.inr (.inr (.inr (va_up f j (some v)))))))) nc ns)))
    | _ => False
  | .arraylength => am_r1 st (fun h r => match hp[h]? with
    | some (.inl (0, n, .inl _)) => k nx loc (.int (nI n) :: r) hp nc ns
    | some (.inl (t, n, .inr (.inr (.inr (.inr _))))) => am_t (Nat.beq t 2 || Nat.beq t 3) (k nx loc (.int (nI n) :: r) hp nc ns)
    | _ => False)
  | .invokevirtual _ => am_t (am_rcv c st[b - 1]? hp && Nat.ble (am_cs (st.drop b)) 8) (∃ (d' : Nat) (r : Option Value) (hp' : List Am_C), d' < d ∧ Am_Ev false d' 0 0 a (st.take b).reverse hp r hp' ∧ am_t (!al || Nat.beq hp'.length hp.length) (k nx loc (r.toList ++ st.drop b) hp' nc ns))
  | .invokestatic _ => bif Nat.beq a 9001 then (match st with
      | .int n :: .int dp :: .ref dst :: .int sp :: .ref src :: r => am_ai hp src (fun n0 f => am_ai hp dst (fun n1 g => am_t (Nat.ble (am_cs r) 8 && Nat.blt 0 d) (∃ n' dp' sp' : Nat, n = nI n' ∧ dp = nI dp' ∧ sp = nI sp' ∧ sp' + n' ≤ n0 ∧ dp' + n' ≤ n1 ∧ k nx loc r (hp.set dst (.inl (0, n1, .inl (va_cpy f g sp' dp' n')))) nc ns)))
      | _ => False)
    else bif Nat.beq a 9002 then am_i2 st (fun x y r => am_t (Nat.ble (am_cs r) 8 && Nat.blt 0 d) (k nx loc (.int (if x < y then y else x) :: r) hp nc ns))
    else bif Nat.beq a 9003 then am_i2 st (fun x y r => am_t (Nat.ble (am_cs r) 8 && Nat.blt 0 d) (k nx loc (.int (if y < x then y else x) :: r) hp nc ns))
    else am_t (Nat.ble b st.length && Nat.ble (am_cs (st.drop b)) 8) (∃ (d' : Nat) (r : Option Value) (hp' : List Am_C), d' < d ∧ Am_Ev false d' 0 0 a (st.take b).reverse hp r hp' ∧ am_t (!al || Nat.beq hp'.length hp.length) (k nx loc (r.toList ++ st.drop b) hp' nc ns))
  | .invokespecial _ => bif Nat.beq a 9000 then am_r1 st (fun _ r => am_t (Nat.ble (am_cs r) 8 && Nat.blt 0 d) (k nx loc r hp nc ns))
    else am_t (am_rcv c st[b - 1]? hp && Nat.ble (am_cs (st.drop b)) 8) (∃ (al' : Bool) (d' mc' ms' : Nat) (hp' : List Am_C), (al' = true → al = true) ∧ d' < d ∧ nc + mc' ≤ mc ∧ ns + ms' ≤ ms ∧ Am_Ev al' d' mc' ms' a (st.take b).reverse hp none hp' ∧ am_t (Nat.beq hp'.length (hp.length + mc')) (k nx loc (st.drop b) hp' (nc + mc') (ns + ms')))
  | .new _ => am_t (al && Nat.ble (nc + 1) mc && Nat.ble (ns + b) ms && Nat.blt a 8) (k nx loc (.ref hp.length :: st) (hp ++ [.inr (a, am_dv a)]) (nc + 1) (ns + b))
  | .newarray .int => am_i1 st (fun x r => ∃ n, x = nI n ∧ am_t (al && Nat.ble n 4096 && Nat.ble (nc + 1) mc && Nat.ble (ns + n) ms) (k nx loc (.ref hp.length :: r) (hp ++ [.inl (0, n, .inl (fun _ => 0))]) (nc + 1) (ns + n)))
  | .newarray .byte => am_i1 st (fun x r => ∃ n, x = nI n ∧ am_t (al && Nat.ble n 4096 && Nat.ble (nc + 1) mc && Nat.ble (ns + n) ms) (k nx loc (.ref hp.length :: r) (hp ++ [.inl (1, n, .inl (fun _ => 0))]) (nc + 1) (ns + n)))
  | .anewarray _ => am_i1 st (fun x r => ∃ n, x = nI n ∧ am_t (al && Nat.ble n 4096 && Nat.ble (nc + 1) mc && Nat.ble (ns + n) ms) (k nx loc (.ref hp.length :: r) (hp ++ [.inl (am_tag a, n, .inr (.inr (.inr (.inr (fun _ => none)))))]) (nc + 1) (ns + n)))
  | .ireturn => match rt, st with
    | some .int, [.int v] => post (some (.int v)) hp nc ns
    | some .boolean, [.int v] => (v = nI 0 ∨ v = nI 1) ∧ post (some (.int v)) hp nc ns
    | _, _ => False
  | .lreturn => match rt, st with
    | some .long, [.long v] => post (some (.long v)) hp nc ns
    | _, _ => False
  | .return_ => match rt, st with
    | none, [] => post none hp nc ns
    | _, _ => False
  | _ => False
def am_blk (cd : List Am_E) (cuts : List Nat) (d mc ms : Nat) (al ini : Bool) (rt : Option FieldType) (post : Option Value → List Am_C → Nat → Nat → Prop) (Go : Am_K) : Nat → Am_K
  | 0 => fun _ _ _ _ _ _ => False
  | n + 1 => fun pc loc st hp nc ns => match am_lk cd pc with
    | none => False
    | some (i, nx, a, b, c) => am_stp d mc ms al ini rt post (fun pc' loc' st' hp' nc' ns' => bif cuts.elem pc' then Go pc' loc' st' hp' nc' ns' else am_blk cd cuts d mc ms al ini rt post Go n pc' loc' st' hp' nc' ns') i nx a b c pc loc st hp nc ns
end
section
/-! ===== a code table's rows, and what else the machine needs of the tables ===== -/
set_option maxRecDepth 20000 in
theorem am_obj_ok : Cond.instanceMethod Lib.objectInit ∈ am_TB ∧ Cond.code Lib.objectInit ⟨#[0xb1]⟩ 1 none ∈ am_TB ∧ Cond.native arraycopyName ∈ am_TB ∧ Cond.static arraycopyName ∈ am_TB ∧ Cond.initialized "java/lang/System" ∈ am_TB ∧ Cond.arrayClass .int ∈ am_TB ∧ Cond.arrayClass .byte ∈ am_TB := by decide +kernel
set_option maxRecDepth 20000 in
theorem am_mth_ok : Cond.static Lib.Math.max.name ∈ am_TB ∧ Cond.initialized "java/lang/Math" ∈ am_TB ∧ Cond.code Lib.Math.max.name Lib.Math.max.code 2 (some .int) ∈ am_TB ∧ Cond.static Lib.Math.min.name ∈ am_TB ∧ Cond.code Lib.Math.min.name Lib.Math.min.code 2 (some .int) ∈ am_TB := by decide +kernel
def am_clC (ci : Nat) (q : vw_C) : Bool := (u_ws q.1 q.2.1 q.2.2).all (fun w => decide (w ∈ am_TB)) && ((List.range q.2.2).all (fun k => decide (parseFieldDescriptor (q.2.1 k).2.2.1 = some (am_Y ci k)) && (decide (am_F ci k = (q.2.1 k).2.2.2) && (decide ((q.2.1 k).1 = q.1) && ((List.range q.2.2).all (fun j => decide (k = j) || decide ((q.2.1 k).2.1 ≠ (q.2.1 j).2.1)) && decide (defaultValue (am_Y ci k) = vp_V (am_dv ci) k))))) && (decide (Cond.instantiable q.1 q.2.2 ∈ am_TB) && (decide (Cond.initialized q.1 ∈ am_TB) && (decide (am_own ci = q.1) && decide ((am_dv ci).length = q.2.2 ∧ (am_dv ci).all (fun v => match v with | .ref _ => false | .retAddr _ => false | _ => true) = true)))))
set_option maxRecDepth 20000 in
theorem am_cl_ok : am_cl.zipIdx.all (fun q => am_clC q.2 q.1) = true := by decide +kernel
theorem am_cl_at {ci : Nat} {q : vw_C} (h : am_cl[ci]? = some q) : am_clC ci q = true := by
  have h1 := List.all_eq_true.mp am_cl_ok (q, ci) (List.mem_of_getElem? (i := ci) (by rw [List.getElem?_zipIdx, h]; simp))
  exact h1
theorem am_cl_ws {ci : Nat} {C : String} {T : u_T} {N : Nat} (h : am_cl[ci]? = some (C, T, N)) : ∀ w ∈ u_ws C T N, w ∈ am_TB := by
  have h1 := am_cl_at h
  simp only [am_clC, Bool.and_eq_true, List.all_eq_true, decide_eq_true_eq] at h1
  exact h1.1
theorem am_cl_f {ci : Nat} {C : String} {T : u_T} {N : Nat} (h : am_cl[ci]? = some (C, T, N)) {k : Nat} (hk : k < N) : parseFieldDescriptor (T k).2.2.1 = some (am_Y ci k) ∧ am_F ci k = (T k).2.2.2 ∧ (T k).1 = C ∧ (∀ j, j < N → k ≠ j → (T k).2.1 ≠ (T j).2.1) ∧ defaultValue (am_Y ci k) = vp_V (am_dv ci) k := by
  have h1 := am_cl_at h
  simp only [am_clC, Bool.and_eq_true, List.all_eq_true, decide_eq_true_eq, Bool.or_eq_true, List.mem_range] at h1
  obtain ⟨a1, a2, a3, a4, a5⟩ := h1.2.1 k hk
  exact ⟨a1, a2, a3, fun j hj hne => (a4 j hj).resolve_left hne, a5⟩
theorem am_cl_g {ci : Nat} {C : String} {T : u_T} {N : Nat} (h : am_cl[ci]? = some (C, T, N)) : Cond.instantiable C N ∈ am_TB ∧ Cond.initialized C ∈ am_TB ∧ am_own ci = C ∧ (am_dv ci).length = N ∧ (am_dv ci).all (fun v => match v with | .ref _ => false | .retAddr _ => false | _ => true) = true := by
  have h1 := am_cl_at h
  simp only [am_clC, Bool.and_eq_true, decide_eq_true_eq] at h1
  exact ⟨h1.2.2.1, h1.2.2.2.1, h1.2.2.2.2.1, h1.2.2.2.2.2⟩
theorem am_cl_lt {ci : Nat} (h : ci < 8) : ∃ q, am_cl[ci]? = some q := by
  have h1 : am_cl.length = 8 := rfl
  exact ⟨_, List.getElem?_eq_getElem (by omega)⟩
def am_len : Instr → Nat
  | .iconst _ => 1 | .bipush _ => 2 | .sipush _ => 3 | .ldc _ => 2 | .ldc_w _ => 3 | .lconst _ => 1 | .ldc2_w _ => 3
  | .iload _ => 2 | .iload_n _ => 1 | .lload _ => 2 | .lload_n _ => 1 | .aload _ => 2 | .aload_n _ => 1
  | .istore _ => 2 | .istore_n _ => 1 | .lstore _ => 2 | .lstore_n _ => 1 | .astore _ => 2 | .astore_n _ => 1
  | .iinc _ _ => 3 | .goto _ => 3 | .ifCond _ _ => 3 | .if_icmp _ _ => 3 | .tableswitch _ _ _ _ => 0 | .lookupswitch _ _ => 0
  | .getfield _ => 3 | .putfield _ => 3 | .getstatic _ => 3 | .invokevirtual _ => 3 | .invokestatic _ => 3 | .invokespecial _ => 3
  | .new _ => 3 | .newarray _ => 2 | .anewarray _ => 3
  | _ => 1
def am_okD (cc : ByteArray) (e : Am_E) : Bool := match am_len e.2.1 with
  | 0 => decide (decode cc e.1 = .ok (e.2.1, e.2.2.1 - e.1))
  | n + 1 => decide (e.2.2.1 = e.1 + (n + 1)) && decide (decode cc e.1 = .ok (e.2.1, n + 1))
theorem am_okDe {cc : ByteArray} {pc : Nat} {i : Instr} {nx : Nat} {q : Nat × Nat × Nat} (h : am_okD cc (pc, i, nx, q) = true) (n : Nat) (hn : am_len i = n + 1) : nx = pc + (n + 1) ∧ decode cc pc = .ok (i, n + 1) := by
  unfold am_okD at h
  simp only [hn, Bool.and_eq_true, decide_eq_true_eq] at h
  exact h
theorem am_okD0 {cc : ByteArray} {pc : Nat} {i : Instr} {nx : Nat} {q : Nat × Nat × Nat} (h : am_okD cc (pc, i, nx, q) = true) (hn : am_len i = 0) : decode cc pc = .ok (i, nx - pc) := by
  unfold am_okD at h
  simp only [hn, decide_eq_true_eq] at h
  exact h
/-- what else a row of a code table has to be -/
def am_okX (oc : Nat) (e : Am_E) : Bool := match e with
  | (pc, i, nx, a, b, c) => match i with
    | .iconst n => decide (Int32.ofInt n = am_nv b a)
    | .bipush n => decide ((Int8.ofInt n).toInt32 = am_nv b a)
    | .sipush n => decide ((Int16.ofInt n).toInt32 = am_nv b a)
    | .iinc _ n => decide (Int32.ofInt n = am_nv b a)
    | .lconst n => decide ((n : Nat) = a)
    | .ldc n => decide (Cond.constant (am_own oc) n (am_nv b a) ∈ am_TB)
    | .ldc_w n => decide (Cond.constant (am_own oc) n (am_nv b a) ∈ am_TB)
    | .ldc2_w n => decide (Cond.constantLong (am_own oc) n (lN a) ∈ am_TB)
    | .goto o => decide ((pc : Int) + o = (a : Int))
    | .ifCond _ o => decide ((pc : Int) + o = (a : Int))
    | .if_icmp _ o => decide ((pc : Int) + o = (a : Int))
    | .tableswitch d lo hi offs => decide (0 ≤ (pc : Int) + d) && (offs.toList.all (fun o => decide (0 ≤ (pc : Int) + o)) && decide (hi - lo + 1 = (offs.toList.length : Int)))
    | .lookupswitch d ps => decide (0 ≤ (pc : Int) + d) && (ps.toList.all (fun o => decide (0 ≤ (pc : Int) + o.2)) && (ps.toList.zip (ps.toList.drop 1)).all (fun (a, next) => a.1 < next.1))
    | .getfield n => am_fl.elem (oc, n, a, b)
    | .putfield n => am_fl.elem (oc, n, a, b) && (!am_F a b || Nat.beq a oc)
    | .getstatic n => decide (a < 4) && decide (Cond.fieldLink (am_own oc) n "ThingsThrown$Kinds" (am_tabN a) "[I" ∈ am_TB)
    | .invokevirtual n => am_mk.elem (oc, n, a, b, c, 0) && decide (0 < b)
    | .invokestatic n => bif Nat.beq a 9001 then am_mk.elem (oc, n, a, b, c, 4) else bif Nat.beq a 9002 then am_mk.elem (oc, n, a, b, c, 6) else bif Nat.beq a 9003 then am_mk.elem (oc, n, a, b, c, 7) else am_mk.elem (oc, n, a, b, c, 1)
    | .invokespecial n => bif Nat.beq a 9000 then am_mk.elem (oc, n, a, b, c, 3) else (am_mk.elem (oc, n, a, b, c, 2) || am_mk.elem (oc, n, a, b, c, 5)) && decide (0 < b)
    | .new n => decide (Cond.classLink (am_own oc) n (am_own a) ∈ am_TB) && decide ((am_dv a).length = b)
    | .anewarray n => decide (Cond.classLink (am_own oc) n (am_own a) ∈ am_TB) && decide (a = 4 ∨ a = 2)
    | _ => true
def am_okE (oc : Nat) (cc : ByteArray) (e : Am_E) : Bool := am_okD cc e && am_okX oc e
theorem am_lk_in : ∀ {cd : List Am_E} {pc : Nat} {r : Instr × Nat × Nat × Nat × Nat}, am_lk cd pc = some r → (pc, r) ∈ cd
  | [], pc, r, h => by simp [am_lk] at h
  | e :: t, pc, r, h => by
    unfold am_lk at h
    cases hb : Nat.beq e.1 pc with
    | true =>
      rw [hb] at h
      have h1 : some e.2 = some r := h
      cases h1
      have h2 := Nat.eq_of_beq_eq_true hb
      subst h2
      exact List.mem_cons_self
    | false =>
      rw [hb] at h
      exact List.mem_cons_of_mem _ (am_lk_in h)
end
section
/-! ===== the abstract machine is sound: what it asks of an instruction is what the machine does ===== -/
def am_Cx (K : Am_X) (A : Nat → Prop) (p : Program) (s : State) (m : MethodId) (args : Array Value) (meth : Method) (c : Code) (oc nL : Nat) (cc : ByteArray) (rt : Option FieldType) (ini : Bool) : Prop :=
  p.tables.exec = Jvm.exec ∧ c.code = cc ∧ c.maxLocals = nL ∧ meth.sig.returnType = rt ∧ meth.locks = false ∧ s.vm.findClass (am_own oc) = some m.cls ∧ (∀ w ∈ am_TB, w.before args s = true) ∧ va_K K.1 am_cl (am_tys K) s ∧ am_Tb K A s s.heap ∧ (∀ q, s.heap.size ≤ q → A q) ∧ am_Nx s ∧ (ini = true → meth.name = "<init>")
def am_Al (K : Am_X) (s : State) (al : Bool) (h0 mc ms : Nat) (hp : List Am_C) (nc ns : Nat) : Prop := (nc ≤ mc ∧ ns ≤ ms) ∧ (al = true → hp.length = h0 + nc ∧ ∀ k, h0 ≤ k → K.2.2.1 k = s.heap.size + (k - h0))
def am_Go (K : Am_X) (A : Nat → Prop) (p : Program) (l : Launch) (e : Env) (s : State) (m : MethodId) (args : Array Value) (below : List Frame) (meth : Method) (c : Code) (nL : Nat) (al : Bool) (h0 d mc ms : Nat) (Q : State → Prop) : Am_K := fun pc loc st hp nc ns =>
  ∀ (ls : Array Slot) (H : Heap) (locs : List Loc), am_R K ls nL loc → va_P K.1 am_cl (am_w K hp) H → va_D A (am_w K hp) → va_S A s.heap H locs → am_Al K s al h0 mc ms hp nc ns → W p l e (am_rm d mc ms) s m args below meth c H locs nc ns Q (F0 m pc ls (st.map (am_v K)))
theorem am_tab6 (t : Nat) : (am_tab t).1 = 6 := by
  unfold am_tab
  split <;> rfl
theorem am_Al.set {K : Am_X} {s : State} {al : Bool} {h0 mc ms : Nat} {hp : List Am_C} {nc ns h : Nat} {c : Am_C} (hal : am_Al K s al h0 mc ms hp nc ns) : am_Al K s al h0 mc ms (hp.set h c) nc ns := ⟨hal.1, fun q => by
  rw [List.length_set]
  exact hal.2 q⟩
theorem am_W_size {p : Program} {l : Launch} {e : Env} {R : Room} {s : State} {m : MethodId} {args : Array Value} {below : List Frame} {meth : Method} {c : Code} {H : Heap} {locs : List Loc} {cells slots : Nat} {Q : State → Prop} {g : JFrame} (kk : H.size ≤ s.heap.size + cells → W p l e R s m args below meth c H locs cells slots Q g) : W p l e R s m args below meth c H locs cells slots Q g := by
  intro T hT X
  have h1 : (T.setVm s.vm).heap.size ≤ s.heap.size + cells := X.same.2.2.1
  have h2 : (T.setVm s.vm).heap = H := hT
  rw [h2] at h1
  exact kk h1 T hT X
theorem am_size {K : Am_X} {A : Nat → Prop} {s : State} {h0 : Nat} {hp : List Am_C} {nc : Nat} {H : Heap} {locs : List Loc} (hP : va_P K.1 am_cl (am_w K hp) H) (hS : va_S A s.heap H locs) (hal : hp.length = h0 + nc ∧ ∀ k, h0 ≤ k → K.2.2.1 k = s.heap.size + (k - h0)) (hle : H.size ≤ s.heap.size + nc) : H.size = K.2.2.1 hp.length := by
  have h1 : K.2.2.1 hp.length = s.heap.size + nc := by rw [hal.2 hp.length (by omega)]; omega
  rw [h1]
  refine Nat.le_antisymm hle ?_
  by_cases hn : nc = 0
  · subst hn
    exact hS.1
  · have hlt : hp.length - 1 < hp.length := by omega
    have h2 := (hP (hp.length - 1) _ (am_w_at (List.getElem?_eq_getElem hlt))).lt
    have h3 : K.2.2.1 (hp.length - 1) = s.heap.size + (hp.length - 1 - h0) := hal.2 _ (by omega)
    have h4 : K.2.2.1 (hp.length - 1) < H.size := h2
    omega
section AMS
variable {p : Program} {l : Launch} {e : Env} {s : State} {m : MethodId} {args : Array Value} {below : List Frame} {meth : Method} {c : Code} {K : Am_X} {A : Nat → Prop} {oc nL h0 : Nat} {cc : ByteArray} {rt : Option FieldType} {ini al : Bool} {d mc ms : Nat} {Q : State → Prop}
variable {pc : Nat} {loc : List (Option Value)} {st : List Value} {hp : List Am_C} {nc ns : Nat} {ls : Array Slot} {H : Heap} {locs : List Loc}
/-- a contract is used at a call: the world of the callee is the caller's own -/
theorem am_pre {al' : Bool} {hp : List Am_C} (X : am_Cx K A p s m args meth c oc nL cc rt ini) (hP : va_P K.1 am_cl (am_w K hp) H) (hD : va_D A (am_w K hp)) (hS : va_S A s.heap H locs) (hr : al' = true → ∀ k, hp.length ≤ k → K.2.2.1 k = H.size + (k - hp.length)) (av : List Value) : ∀ U : State, U.heap = H → s.WarmedH U.vm → va_Pc av (am_Pre al' K hp H.size) av.toArray U := by
  obtain ⟨hx, hb, hml, hrt, hlocks, hown, hts, hK, hTb, hA, hNx, hini⟩ := X
  intro U hU hW
  refine ⟨rfl, by rw [hU], by rw [hU]; exact hP, va_K.moved hW.alike hK, hD.weaken (fun _ _ _ _ => trivial), fun t ht => ?_, hNx.warm hW, hr⟩
  have hsub : ∀ q, am_fr K hp H.size q → A q := by
    intro q hq
    rcases hq with ⟨k, e, h⟩ | h
    · exact hD.2 k (q, e) h
    · exact hA q (Nat.le_trans hS.1 h)
  have hkp : ∀ a : Nat, a < s.heap.size → ¬ A a → U.heap[a]? = s.heap[a]? := fun a h1 h2 => by rw [hU]; exact hS.2.1 a h1 h2
  exact ⟨((((hTb t ht).1.kept hkp).moved hW.alike).narrow hsub), ((((hTb t ht).2.kept hkp).moved hW.alike).narrow hsub)⟩
theorem am_blind {al' : Bool} {hp : List Am_C} {sz : Nat} (av : List Value) : FrameBlind (va_Pc av (am_Pre al' K hp sz)) := by
  intro a U g mk q
  obtain ⟨q0, q1, qP, qK, qD, qT, qN, qr⟩ := q
  have hal : U.vm.Alike (U.calling g mk a).vm := Vm.Alike.refl U.vm
  refine ⟨q0, q1, qP, va_K.moved (u := U) (U := U.calling g mk a) hal qK, qD, fun t ht => ⟨(qT t ht).1.moved hal, (qT t ht).2.moved hal⟩, ?_, qr⟩
  exact ⟨fun o i y h hh => va_Nw.same rfl (show U.vm = (U.calling g mk a).vm from rfl) (qN.1 o i y h hh), qN.2.1.moved hal, qN.2.2.moved hal⟩
/-- behind a call -/
theorem am_after {mc' ms' : Nat} {hp hp' : List Am_C} {r : Option Value} {rest st0 : List Value} {a : Array Value} (X : am_Cx K A p s m args meth c oc nL cc rt ini) (hP : va_P K.1 am_cl (am_w K hp) H) (hD : va_D A (am_w K hp)) (hS : va_S A s.heap H locs)
    (hr : va_Run p l e (am_rm d mc ms) s m args below meth c H locs nc ns mc' ms' (F0 m pc ls st0) (rest.map (am_v K)) (am_Post K hp hp' H.size r a) (am_fr K hp H.size))
    (kk : ∀ (H1 : Heap) (locs1 : List Loc), va_P K.1 am_cl (am_w K hp') H1 → va_D A (am_w K hp') → va_S A s.heap H1 locs1 → W p l e (am_rm d mc ms) s m args below meth c H1 locs1 (nc + mc') (ns + ms') Q (F0 m (pc + 3) ls ((r.toList ++ rest).map (am_v K)))) :
    W p l e (am_rm d mc ms) s m args below meth c H locs nc ns Q (F0 m pc ls st0) := by
  obtain ⟨hx, hb, hml, hrt, hlocks, hown, hts, hK, hTb, hA, hNx, hini⟩ := X
  have hsub : ∀ q, am_fr K hp H.size q → A q := by
    intro q hq
    rcases hq with ⟨k, e, h⟩ | h
    · exact hD.2 k (q, e) h
    · exact hA q (Nat.le_trans hS.1 h)
  intro T hT Y
  obtain ⟨v, st₀, t, T', L, h0, Y', hL, e1, e2, ⟨hv, hP1, hD1, hz, hkp⟩, stp⟩ := hr T hT Y
  have hv' : v = r.map (am_v K) := by
    injection hv
  rw [h0] at hz hkp
  have hS1 : va_S A s.heap T'.heap (locs ++ L) := by
    refine ⟨Nat.le_trans hS.1 (by rw [e1]; exact hz), fun q h1 h2 => ?_, fun q hq => ?_⟩
    · rw [e1, hkp q (Nat.lt_of_lt_of_le h1 hS.1) (fun z => h2 (hsub q z))]
      exact hS.2.1 q h1 h2
    · rcases List.mem_append.mp hq with h | h
      · exact hS.2.2 q h
      · exact hsub _ (hL q h)
  obtain ⟨t2, a1, b1⟩ := kk T'.heap (locs ++ L) (by rw [e1]; exact hP1) (hD1.weaken (fun k q _ h => hsub q.1 h)) hS1 T' rfl Y'
  refine ⟨t2, stp t2 ?_, b1⟩
  have he : v.toList ++ rest.map (am_v K) = (r.toList ++ rest).map (am_v K) := by
    rw [hv']
    cases r <;> simp
  show Steps p.tables e below (T'.setTop { (F0 m pc ls st0) with pc := pc + 3, stack := v.toList ++ rest.map (am_v K) }) t2
  rw [he]
  exact a1
end AMS
end
section
def am_grp : Instr → Nat
  | .getfield _ => 1 | .putfield _ => 1 | .getstatic _ => 1 | .iaload => 1 | .baload => 1 | .aaload => 1 | .iastore => 1 | .bastore => 1 | .aastore => 1 | .arraylength => 1
  | .invokevirtual _ => 2 | .invokestatic _ => 2 | .invokespecial _ => 2 | .new _ => 2 | .newarray _ => 2 | .anewarray _ => 2 | .ireturn => 2 | .lreturn => 2 | .return_ => 2
  | _ => 0
section AMT
variable {p : Program} {l : Launch} {e : Env} {s : State} {m : MethodId} {args : Array Value} {below : List Frame} {meth : Method} {c : Code} {K : Am_X} {A : Nat → Prop} {oc nL h0 : Nat} {cc : ByteArray} {rt : Option FieldType} {ini al : Bool} {d mc ms : Nat} {Q : State → Prop}
variable {pc : Nat} {loc : List (Option Value)} {st : List Value} {hp : List Am_C} {nc ns : Nat} {ls : Array Slot} {H : Heap} {locs : List Loc}
variable {post : Option Value → List Am_C → Nat → Nat → Prop} {k : Am_K}
theorem am_set_i {h n j : Nat} {f : Nat → Int32} {t : Nat} {x : Int32} (hj : j < n) (hn : n ≤ 4096) : (am_w K hp).set h (K.2.2.1 h, .inl (K.2.1 (am_ft t), n, .inl (upd f (nI j).toNatClampNeg x))) = am_w K (hp.set h (.inl (t, n, .inl (upd f j x)))) := by
  rw [nI_clamp (by omega)]
  exact am_w_set (c := .inl (t, n, .inl (upd f j x)))
theorem am_set_o {h ci b : Nat} {fs : List Value} {v : Value} : (am_w K hp).set h (K.2.2.1 h, .inr (ci, (fs.map (am_v K)).set b (am_v K v))) = am_w K (hp.set h (.inr (ci, fs.set b v))) := by
  rw [← List.map_set]
  exact am_w_set (c := .inr (ci, fs.set b v))
theorem am_tysAt {t : Nat} (h : t < 4) : (am_tys K)[t]? = some (K.2.1 (am_ft t), am_ft t) := by
  rcases (show t = 0 ∨ t = 1 ∨ t = 2 ∨ t = 3 by omega) with rfl | rfl | rfl | rfl <;> rfl
theorem am_sw_at {x : Int32} {q : Nat → Prop} : ∀ {os : List Int} {lo : Int}, am_sw x pc q lo os → ∀ (j : Nat) (o : Int), os[j]? = some o → x.toInt = lo + j → q ((pc : Int) + o).toNat
  | [], _, _, j, o, ho, _ => by simp at ho
  | o' :: os, lo, h, 0, o, ho, hx => by
    simp at ho
    subst ho
    exact h.1 (by simpa using hx)
  | o' :: os, lo, h, j + 1, o, ho, hx => by
    have ho' : os[j]? = some o := by simpa using ho
    exact am_sw_at h.2 j o ho' (by rw [hx]; push_cast; omega)
theorem am_lsw_at {x : Int32} {q : Nat → Prop} {dflt : Int} : ∀ {ps : List (Int × Int)}, am_lsw x pc q dflt ps → q ((pc : Int) + Op.lookupswitch.offset ps dflt x.toInt).toNat
  | [], h => by
    rw [show Op.lookupswitch.offset [] dflt x.toInt = dflt from rfl]
    exact h
  | (a, o) :: r, h => by
    rw [Op.lookupswitch.offset_cons]
    by_cases hx : x.toInt = a
    · first
        | (rw [if_pos hx]; exact h.1 hx)
        | (rw [if_pos (by simp [hx])]; exact h.1 hx)
        | (rw [if_pos hx.symm]; exact h.1 hx)
    · first
        | (rw [if_neg hx]; exact am_lsw_at (h.2 hx))
        | (rw [if_neg (by simp [hx])]; exact am_lsw_at (h.2 hx))
        | (rw [if_neg (Ne.symm hx)]; exact am_lsw_at (h.2 hx))
theorem am_lsw_in {x : Int} {d : Int} : ∀ {ps : List (Int × Int)}, Op.lookupswitch.offset ps d x = d ∨ ∃ q ∈ ps, Op.lookupswitch.offset ps d x = q.2
  | [] => Or.inl rfl
  | (a, o) :: r => by
    rw [Op.lookupswitch.offset_cons]
    split
    · exact Or.inr ⟨(a, o), List.mem_cons_self, rfl⟩
    · rcases am_lsw_in (x := x) (d := d) (ps := r) with h | ⟨q, hq, h⟩
      · exact Or.inl h
      · exact Or.inr ⟨q, List.mem_cons_of_mem _ hq, h⟩
set_option maxHeartbeats 4000000 in
theorem am_okS {nx a b c' : Nat} {i : Instr} (X : am_Cx K A p s m args meth c oc nL cc rt ini) (hE : am_okE oc cc (pc, i, nx, a, b, c') = true)
    (hk : ∀ pc loc st hp nc ns, k pc loc st hp nc ns → am_Go K A p l e s m args below meth c nL al h0 d mc ms Q pc loc st hp nc ns)
    (h : am_stp d mc ms al ini rt post k i nx a b c' pc loc st hp nc ns) (hgrp : am_grp i = 0) :
    am_Go K A p l e s m args below meth c nL al h0 d mc ms Q pc loc st hp nc ns := by
  obtain ⟨hx, hb, hml, hrt, hlocks, hown, hts, hK, hTb, hA, hNx, hini⟩ := id X
  unfold am_okE at hE
  rw [Bool.and_eq_true] at hE
  obtain ⟨hE1, hE2⟩ := hE
  intro ls H locs hl hP hD hS hal
  cases i with
  | iconst n =>
    obtain ⟨rfl, hd⟩ := am_okDe hE1 0 rfl
    have h : am_n b a (fun v => k _ loc (.int v :: st) hp nc ns) := h
    have h := am_ne h
    exact lv_iconst hx hb hd (of_decide_eq_true hE2) (hk _ _ _ _ _ _ h ls H locs hl hP hD hS hal)
  | bipush n =>
    obtain ⟨rfl, hd⟩ := am_okDe hE1 1 rfl
    have h : am_n b a (fun v => k _ loc (.int v :: st) hp nc ns) := h
    have h := am_ne h
    exact lv_bipush hx hb hd (of_decide_eq_true hE2) (hk _ _ _ _ _ _ h ls H locs hl hP hD hS hal)
  | sipush n =>
    obtain ⟨rfl, hd⟩ := am_okDe hE1 2 rfl
    have h : am_n b a (fun v => k _ loc (.int v :: st) hp nc ns) := h
    have h := am_ne h
    exact lv_sipush hx hb hd (of_decide_eq_true hE2) (hk _ _ _ _ _ _ h ls H locs hl hP hD hS hal)
  | ldc n =>
    obtain ⟨rfl, hd⟩ := am_okDe hE1 1 rfl
    have hE3 : decide (Cond.constant (am_own oc) n (am_nv b a) ∈ am_TB) = true := hE2
    have h : am_n b a (fun v => k _ loc (.int v :: st) hp nc ns) := h
    have h := am_ne h
    exact lv_ldc hx hb hown (hts _ (of_decide_eq_true hE3)) hd (hk _ _ _ _ _ _ h ls H locs hl hP hD hS hal)
  | ldc_w n =>
    obtain ⟨rfl, hd⟩ := am_okDe hE1 2 rfl
    have hE3 : decide (Cond.constant (am_own oc) n (am_nv b a) ∈ am_TB) = true := hE2
    have h : am_n b a (fun v => k _ loc (.int v :: st) hp nc ns) := h
    have h := am_ne h
    exact lv_ldcw hx hb hown (hts _ (of_decide_eq_true hE3)) hd (hk _ _ _ _ _ _ h ls H locs hl hP hD hS hal)
  | lconst n =>
    obtain ⟨rfl, hd⟩ := am_okDe hE1 0 rfl
    have he : (n : Nat) = a := of_decide_eq_true hE2
    exact lv_lconst hx hb hd (by rw [he]; rfl) (hk _ _ _ _ _ _ h ls H locs hl hP hD hS hal)
  | ldc2_w n =>
    obtain ⟨rfl, hd⟩ := am_okDe hE1 2 rfl
    have hE3 : decide (Cond.constantLong (am_own oc) n (lN a) ∈ am_TB) = true := hE2
    exact lv_ldc2 hx hb hown (hts _ (of_decide_eq_true hE3)) hd (hk _ _ _ _ _ _ h ls H locs hl hP hD hS hal)
  | iload j =>
    obtain ⟨rfl, hd⟩ := am_okDe hE1 1 rfl
    obtain ⟨v, hv, h⟩ := am_lde h
    obtain ⟨h1, h⟩ := am_te h
    obtain ⟨x, rfl⟩ := am_isIe h1
    exact lv_iload hx hb hd (hl.2.2.2 _ _ hv) (hk _ _ _ _ _ _ h ls H locs hl hP hD hS hal)
  | iload_n j =>
    obtain ⟨rfl, hd⟩ := am_okDe hE1 0 rfl
    obtain ⟨v, hv, h⟩ := am_lde h
    obtain ⟨h1, h⟩ := am_te h
    obtain ⟨x, rfl⟩ := am_isIe h1
    exact lv_iload_n hx hb hd rfl (hl.2.2.2 _ _ hv) (hk _ _ _ _ _ _ h ls H locs hl hP hD hS hal)
  | lload j =>
    obtain ⟨rfl, hd⟩ := am_okDe hE1 1 rfl
    obtain ⟨v, hv, h⟩ := am_lde h
    obtain ⟨h1, h⟩ := am_te h
    obtain ⟨x, rfl⟩ := am_isLe h1
    exact lv_lload hx hb hd (hl.2.2.2 _ _ hv) (hk _ _ _ _ _ _ h ls H locs hl hP hD hS hal)
  | lload_n j =>
    obtain ⟨rfl, hd⟩ := am_okDe hE1 0 rfl
    obtain ⟨v, hv, h⟩ := am_lde h
    obtain ⟨h1, h⟩ := am_te h
    obtain ⟨x, rfl⟩ := am_isLe h1
    exact lv_lload_n hx hb hd rfl (hl.2.2.2 _ _ hv) (hk _ _ _ _ _ _ h ls H locs hl hP hD hS hal)
  | aload j =>
    obtain ⟨rfl, hd⟩ := am_okDe hE1 1 rfl
    obtain ⟨v, hv, h⟩ := am_lde h
    obtain ⟨h1, h⟩ := am_te h
    obtain ⟨x, hx1⟩ := am_isRe K h1
    have h2 := hl.2.2.2 _ _ hv
    rw [hx1] at h2
    have h3 := hk _ _ _ _ _ _ h ls H locs hl hP hD hS hal
    rw [List.map_cons, hx1] at h3
    exact lv_aload hx hb hd h2 h3
  | aload_n j =>
    obtain ⟨rfl, hd⟩ := am_okDe hE1 0 rfl
    obtain ⟨v, hv, h⟩ := am_lde h
    obtain ⟨h1, h⟩ := am_te h
    obtain ⟨x, hx1⟩ := am_isRe K h1
    have h2 := hl.2.2.2 _ _ hv
    rw [hx1] at h2
    have h3 := hk _ _ _ _ _ _ h ls H locs hl hP hD hS hal
    rw [List.map_cons, hx1] at h3
    exact lv_aload_n hx hb hd rfl h2 h3
  | istore j =>
    obtain ⟨rfl, hd⟩ := am_okDe hE1 1 rfl
    obtain ⟨x, r, rfl, h⟩ := am_i1e h
    obtain ⟨h1, h⟩ := am_hase h
    exact lv_istore hx hb hd (am_R_has hl) (by rw [← hl.2.2.1]; exact h1) rfl (fun ls' h2 => hk _ _ _ _ _ _ (am_nfe _ h) ls' H locs (am_R_s1 (v := .int x) hl h2) hP hD hS hal)
  | istore_n j =>
    obtain ⟨rfl, hd⟩ := am_okDe hE1 0 rfl
    obtain ⟨x, r, rfl, h⟩ := am_i1e h
    obtain ⟨h1, h⟩ := am_hase h
    exact lv_istore_n hx hb hd rfl (am_R_has hl) (by rw [← hl.2.2.1]; exact h1) rfl (fun ls' h2 => hk _ _ _ _ _ _ (am_nfe _ h) ls' H locs (am_R_s1 (v := .int x) hl h2) hP hD hS hal)
  | lstore j =>
    obtain ⟨rfl, hd⟩ := am_okDe hE1 1 rfl
    obtain ⟨x, r, rfl, h⟩ := am_j1e h
    obtain ⟨h1, h⟩ := am_hase h
    exact lv_lstore hx hb hd (am_R_has hl) (by rw [← hl.2.2.1]; exact h1) rfl (fun ls' h2 => hk _ _ _ _ _ _ (am_nfe _ h) ls' H locs (am_R_s2 (v := .long x) hl h2) hP hD hS hal)
  | lstore_n j =>
    obtain ⟨rfl, hd⟩ := am_okDe hE1 0 rfl
    obtain ⟨x, r, rfl, h⟩ := am_j1e h
    obtain ⟨h1, h⟩ := am_hase h
    exact lv_lstore_n hx hb hd rfl (am_R_has hl) (by rw [← hl.2.2.1]; exact h1) rfl (fun ls' h2 => hk _ _ _ _ _ _ (am_nfe _ h) ls' H locs (am_R_s2 (v := .long x) hl h2) hP hD hS hal)
  | astore j =>
    obtain ⟨rfl, hd⟩ := am_okDe hE1 1 rfl
    obtain ⟨x, r, rfl, h⟩ := am_r1e h
    obtain ⟨h1, h⟩ := am_hase h
    exact lv_astore hx hb hd (am_R_has hl) (by rw [← hl.2.2.1]; exact h1) rfl (fun ls' h2 => hk _ _ _ _ _ _ (am_nfe _ h) ls' H locs (am_R_s1 (v := .ref x) hl h2) hP hD hS hal)
  | astore_n j =>
    obtain ⟨rfl, hd⟩ := am_okDe hE1 0 rfl
    obtain ⟨x, r, rfl, h⟩ := am_r1e h
    obtain ⟨h1, h⟩ := am_hase h
    exact lv_astore_n hx hb hd rfl (am_R_has hl) (by rw [← hl.2.2.1]; exact h1) rfl (fun ls' h2 => hk _ _ _ _ _ _ (am_nfe _ h) ls' H locs (am_R_s1 (v := .ref x) hl h2) hP hD hS hal)
  | iinc j n =>
    obtain ⟨rfl, hd⟩ := am_okDe hE1 2 rfl
    obtain ⟨v, hv, h2⟩ := am_lde h
    obtain ⟨x, r, he, h3⟩ := am_i1e h2
    have he1 : v = .int x := (List.cons.inj he).1
    clear h2 h
    subst he1
    have h := am_ne h3
    obtain ⟨kk, hkk⟩ := List.getElem?_of_mem (am_all_in (K := K) hv)
    exact lv_iinc (v := x + am_nv b a) hx hb hd (am_R_has hl) hkk (by rw [of_decide_eq_true hE2]) (by rw [← hl.2.2.1]; exact (List.getElem?_eq_some_iff.mp hv).1) rfl (fun ls' h2 => hk _ _ _ _ _ _ (am_nfe _ h) ls' H locs (am_R_s1 (v := .int (x + am_nv b a)) hl h2) hP hD hS hal)
  | iadd =>
    obtain ⟨rfl, hd⟩ := am_okDe hE1 0 rfl
    obtain ⟨x, y, r, rfl, h⟩ := am_i2e h
    exact lv_iadd hx hb hd (hk _ _ _ _ _ _ h ls H locs hl hP hD hS hal)
  | isub =>
    obtain ⟨rfl, hd⟩ := am_okDe hE1 0 rfl
    obtain ⟨x, y, r, rfl, h⟩ := am_i2e h
    exact lv_isub hx hb hd (hk _ _ _ _ _ _ h ls H locs hl hP hD hS hal)
  | imul =>
    obtain ⟨rfl, hd⟩ := am_okDe hE1 0 rfl
    obtain ⟨x, y, r, rfl, h⟩ := am_i2e h
    exact lv_imul hx hb hd (hk _ _ _ _ _ _ h ls H locs hl hP hD hS hal)
  | iand =>
    obtain ⟨rfl, hd⟩ := am_okDe hE1 0 rfl
    obtain ⟨x, y, r, rfl, h⟩ := am_i2e h
    exact lv_iand hx hb hd (hk _ _ _ _ _ _ h ls H locs hl hP hD hS hal)
  | ior =>
    obtain ⟨rfl, hd⟩ := am_okDe hE1 0 rfl
    obtain ⟨x, y, r, rfl, h⟩ := am_i2e h
    exact lv_ior hx hb hd (hk _ _ _ _ _ _ h ls H locs hl hP hD hS hal)
  | ixor =>
    obtain ⟨rfl, hd⟩ := am_okDe hE1 0 rfl
    obtain ⟨x, y, r, rfl, h⟩ := am_i2e h
    exact lv_ixor hx hb hd (hk _ _ _ _ _ _ h ls H locs hl hP hD hS hal)
  | ishl =>
    obtain ⟨rfl, hd⟩ := am_okDe hE1 0 rfl
    obtain ⟨x, y, r, rfl, h⟩ := am_i2e h
    exact lv_ishl hx hb hd (hk _ _ _ _ _ _ h ls H locs hl hP hD hS hal)
  | ishr =>
    obtain ⟨rfl, hd⟩ := am_okDe hE1 0 rfl
    obtain ⟨x, y, r, rfl, h⟩ := am_i2e h
    exact lv_ishr hx hb hd (hk _ _ _ _ _ _ h ls H locs hl hP hD hS hal)
  | iushr =>
    obtain ⟨rfl, hd⟩ := am_okDe hE1 0 rfl
    obtain ⟨x, y, r, rfl, h⟩ := am_i2e h
    exact lv_iushr hx hb hd rfl (hk _ _ _ _ _ _ h ls H locs hl hP hD hS hal)
  | idiv =>
    obtain ⟨rfl, hd⟩ := am_okDe hE1 0 rfl
    obtain ⟨x, y, r, rfl, h1, h⟩ := am_i2e h
    exact lv_idiv hx hb hd h1 (hk _ _ _ _ _ _ h ls H locs hl hP hD hS hal)
  | irem =>
    obtain ⟨rfl, hd⟩ := am_okDe hE1 0 rfl
    obtain ⟨x, y, r, rfl, h1, h⟩ := am_i2e h
    exact lv_irem hx hb hd h1 (hk _ _ _ _ _ _ h ls H locs hl hP hD hS hal)
  | ladd =>
    obtain ⟨rfl, hd⟩ := am_okDe hE1 0 rfl
    obtain ⟨x, y, r, rfl, h⟩ := am_j2e h
    exact lv_ladd hx hb hd (hk _ _ _ _ _ _ h ls H locs hl hP hD hS hal)
  | lmul =>
    obtain ⟨rfl, hd⟩ := am_okDe hE1 0 rfl
    obtain ⟨x, y, r, rfl, h⟩ := am_j2e h
    exact lv_lmul hx hb hd (hk _ _ _ _ _ _ h ls H locs hl hP hD hS hal)
  | ldiv =>
    obtain ⟨rfl, hd⟩ := am_okDe hE1 0 rfl
    obtain ⟨x, y, r, rfl, h1, h⟩ := am_j2e h
    exact lv_ldiv hx hb hd h1 (hk _ _ _ _ _ _ h ls H locs hl hP hD hS hal)
  | lrem =>
    obtain ⟨rfl, hd⟩ := am_okDe hE1 0 rfl
    obtain ⟨x, y, r, rfl, h1, h⟩ := am_j2e h
    exact lv_lrem hx hb hd h1 (hk _ _ _ _ _ _ h ls H locs hl hP hD hS hal)
  | lcmp =>
    obtain ⟨rfl, hd⟩ := am_okDe hE1 0 rfl
    obtain ⟨x, y, r, rfl, h⟩ := am_j2e h
    exact W.lcmp hx hb hd (hk _ _ _ _ _ _ h ls H locs hl hP hD hS hal)
  | i2l =>
    obtain ⟨rfl, hd⟩ := am_okDe hE1 0 rfl
    obtain ⟨x, r, rfl, h⟩ := am_i1e h
    exact lv_i2l hx hb hd rfl (hk _ _ _ _ _ _ h ls H locs hl hP hD hS hal)
  | l2i =>
    obtain ⟨rfl, hd⟩ := am_okDe hE1 0 rfl
    obtain ⟨x, r, rfl, h⟩ := am_j1e h
    exact lv_l2i hx hb hd rfl (hk _ _ _ _ _ _ h ls H locs hl hP hD hS hal)
  | i2b =>
    obtain ⟨rfl, hd⟩ := am_okDe hE1 0 rfl
    obtain ⟨x, r, rfl, h⟩ := am_i1e h
    exact lv_i2b hx hb hd rfl (hk _ _ _ _ _ _ h ls H locs hl hP hD hS hal)
  | dup =>
    obtain ⟨rfl, hd⟩ := am_okDe hE1 0 rfl
    match st, h with
    | v :: r, h =>
      obtain ⟨h1, h⟩ := am_te h
      exact lv_dup hx hb hd (by rw [am_cat]; exact Nat.eq_of_beq_eq_true h1) (hk _ _ _ _ _ _ h ls H locs hl hP hD hS hal)
    | [], h => exact (show False from h).elim
  | pop =>
    obtain ⟨rfl, hd⟩ := am_okDe hE1 0 rfl
    match st, h with
    | v :: r, h =>
      obtain ⟨h1, h⟩ := am_te h
      exact lv_pop hx hb hd (by rw [am_cat]; exact Nat.eq_of_beq_eq_true h1) (hk _ _ _ _ _ _ h ls H locs hl hP hD hS hal)
    | [], h => exact (show False from h).elim
  | dup2 =>
    obtain ⟨rfl, hd⟩ := am_okDe hE1 0 rfl
    match st, h with
    | v :: w :: r, h =>
      obtain ⟨h1, h⟩ := am_te h
      rw [Bool.and_eq_true] at h1
      exact lv_dup2_11 hx hb hd (by rw [am_cat]; exact Nat.eq_of_beq_eq_true h1.1) (by rw [am_cat]; exact Nat.eq_of_beq_eq_true h1.2) (hk _ _ _ _ _ _ h ls H locs hl hP hD hS hal)
    | [v], h => exact (show False from h).elim
    | [], h => exact (show False from h).elim
  | goto o =>
    obtain ⟨rfl, hd⟩ := am_okDe hE1 2 rfl
    exact lv_goto hx hb hd (of_decide_eq_true hE2) (hk _ _ _ _ _ _ h ls H locs hl hP hD hS hal)
  | ifCond q o =>
    obtain ⟨rfl, hd⟩ := am_okDe hE1 2 rfl
    have ht : (pc : Int) + o = (a : Int) := of_decide_eq_true hE2
    cases q with
    | eq =>
      obtain ⟨x, r, rfl, h1, h2⟩ := am_i1e h
      exact lv_if_eq hx hb hd ht (fun q => hk _ _ _ _ _ _ (h1 q) ls H locs hl hP hD hS hal) (fun q => hk _ _ _ _ _ _ (h2 q) ls H locs hl hP hD hS hal)
    | ne =>
      obtain ⟨x, r, rfl, h1, h2⟩ := am_i1e h
      exact lv_if_ne hx hb hd ht (fun q => hk _ _ _ _ _ _ (h1 q) ls H locs hl hP hD hS hal) (fun q => hk _ _ _ _ _ _ (h2 q) ls H locs hl hP hD hS hal)
    | lt =>
      obtain ⟨x, r, rfl, h1, h2⟩ := am_i1e h
      exact lv_if_lt hx hb hd ht (fun q => hk _ _ _ _ _ _ (h1 q) ls H locs hl hP hD hS hal) (fun q => hk _ _ _ _ _ _ (h2 q) ls H locs hl hP hD hS hal)
    | ge =>
      obtain ⟨x, r, rfl, h1, h2⟩ := am_i1e h
      exact lv_if_ge hx hb hd ht (fun q => hk _ _ _ _ _ _ (h1 q) ls H locs hl hP hD hS hal) (fun q => hk _ _ _ _ _ _ (h2 q) ls H locs hl hP hD hS hal)
    | gt =>
      obtain ⟨x, r, rfl, h1, h2⟩ := am_i1e h
      exact lv_if_gt hx hb hd ht (fun q => hk _ _ _ _ _ _ (h1 q) ls H locs hl hP hD hS hal) (fun q => hk _ _ _ _ _ _ (h2 q) ls H locs hl hP hD hS hal)
    | le =>
      obtain ⟨x, r, rfl, h1, h2⟩ := am_i1e h
      exact lv_if_le hx hb hd ht (fun q => hk _ _ _ _ _ _ (h1 q) ls H locs hl hP hD hS hal) (fun q => hk _ _ _ _ _ _ (h2 q) ls H locs hl hP hD hS hal)
  | if_icmp q o =>
    obtain ⟨rfl, hd⟩ := am_okDe hE1 2 rfl
    have ht : (pc : Int) + o = (a : Int) := of_decide_eq_true hE2
    cases q with
    | eq =>
      obtain ⟨x, y, r, rfl, h1, h2⟩ := am_i2e h
      exact lv_icmp_eq hx hb hd ht (fun q => hk _ _ _ _ _ _ (h1 q) ls H locs hl hP hD hS hal) (fun q => hk _ _ _ _ _ _ (h2 q) ls H locs hl hP hD hS hal)
    | ne =>
      obtain ⟨x, y, r, rfl, h1, h2⟩ := am_i2e h
      exact lv_icmp_ne hx hb hd ht (fun q => hk _ _ _ _ _ _ (h1 q) ls H locs hl hP hD hS hal) (fun q => hk _ _ _ _ _ _ (h2 q) ls H locs hl hP hD hS hal)
    | lt =>
      obtain ⟨x, y, r, rfl, h1, h2⟩ := am_i2e h
      exact lv_icmp_lt hx hb hd ht (fun q => hk _ _ _ _ _ _ (h1 q) ls H locs hl hP hD hS hal) (fun q => hk _ _ _ _ _ _ (h2 q) ls H locs hl hP hD hS hal)
    | ge =>
      obtain ⟨x, y, r, rfl, h1, h2⟩ := am_i2e h
      exact lv_icmp_ge hx hb hd ht (fun q => hk _ _ _ _ _ _ (h1 q) ls H locs hl hP hD hS hal) (fun q => hk _ _ _ _ _ _ (h2 q) ls H locs hl hP hD hS hal)
    | gt =>
      obtain ⟨x, y, r, rfl, h1, h2⟩ := am_i2e h
      exact lv_icmp_gt hx hb hd ht (fun q => hk _ _ _ _ _ _ (h1 q) ls H locs hl hP hD hS hal) (fun q => hk _ _ _ _ _ _ (h2 q) ls H locs hl hP hD hS hal)
    | le =>
      obtain ⟨x, y, r, rfl, h1, h2⟩ := am_i2e h
      exact lv_icmp_le hx hb hd ht (fun q => hk _ _ _ _ _ _ (h1 q) ls H locs hl hP hD hS hal) (fun q => hk _ _ _ _ _ _ (h2 q) ls H locs hl hP hD hS hal)
  | tableswitch dflt lo hi offs =>
    have hd := am_okD0 hE1 rfl
    obtain ⟨x, r, rfl, h1, h2⟩ := am_i1e h
    simp only [am_okX, Bool.and_eq_true, decide_eq_true_eq, List.all_eq_true] at hE2
    obtain ⟨g1, g2, g3⟩ := hE2
    by_cases q : x.toInt < lo ∨ hi < x.toInt
    · exact lv_tableOut hx hb hd q (tgt := ((pc : Int) + dflt).toNat) (Int.toNat_of_nonneg g1).symm (hk _ _ _ _ _ _ (h1 q) ls H locs hl hP hD hS hal)
    · have q1 : ¬ x.toInt < lo := fun z => q (Or.inl z)
      have q2 : ¬ hi < x.toInt := fun z => q (Or.inr z)
      have hj : (x.toInt - lo).toNat < offs.toList.length := by omega
      have ho : offs.toList[(x.toInt - lo).toNat]? = some (offs.toList[(x.toInt - lo).toNat]'hj) := List.getElem?_eq_getElem hj
      have h3 := am_sw_at h2 _ _ ho (by omega)
      exact lv_tableIn hx hb hd q1 q2 (by rw [← Array.getElem?_toList]; exact ho) (tgt := ((pc : Int) + offs.toList[(x.toInt - lo).toNat]'hj).toNat) (Int.toNat_of_nonneg (g2 _ (List.getElem_mem hj))).symm (hk _ _ _ _ _ _ h3 ls H locs hl hP hD hS hal)
  | lookupswitch dflt ps =>
    have hd := am_okD0 hE1 rfl
    obtain ⟨x, r, rfl, h⟩ := am_i1e h
    have hE3 := hE2
    simp only [am_okX, Bool.and_eq_true, decide_eq_true_eq] at hE3
    obtain ⟨g1, g2, g3⟩ := hE3
    have h1 := am_lsw_at h
    refine lv_lookup hx hb hd g3 rfl (tgt := ((pc : Int) + Op.lookupswitch.offset ps.toList dflt x.toInt).toNat) (Int.toNat_of_nonneg ?_).symm (hk _ _ _ _ _ _ h1 ls H locs hl hP hD hS hal)
    rcases am_lsw_in (x := x.toInt) (d := dflt) (ps := ps.toList) with q | ⟨z, hz, q⟩
    · rw [q]; exact g1
    · rw [q]; exact of_decide_eq_true (List.all_eq_true.mp g2 z hz)
  | _ => first | exact absurd (show (1 : Nat) = 0 from hgrp) (by decide) | exact absurd (show (2 : Nat) = 0 from hgrp) (by decide) | exact (show False from h).elim
end AMT
end
section
section AMH
variable {p : Program} {l : Launch} {e : Env} {s : State} {m : MethodId} {args : Array Value} {below : List Frame} {meth : Method} {c : Code} {K : Am_X} {A : Nat → Prop} {oc nL h0 : Nat} {cc : ByteArray} {rt : Option FieldType} {ini al : Bool} {d mc ms : Nat} {Q : State → Prop}
variable {pc : Nat} {loc : List (Option Value)} {st : List Value} {hp : List Am_C} {nc ns : Nat} {ls : Array Slot} {H : Heap} {locs : List Loc}
variable {post : Option Value → List Am_C → Nat → Nat → Prop} {k : Am_K}
theorem am_set_r {h n j t v : Nat} {f : Nat → Option Nat} (hj : j < n) (hn : n ≤ 4096) : (am_w K hp).set h (K.2.2.1 h, .inl (K.2.1 (am_ft t), n, .inr (.inr (.inr (.inr (va_up (fun j => (f j).map K.2.2.1) (nI j).toNatClampNeg (some (K.2.2.1 v)))))))) = am_w K (hp.set h (.inl (t, n, .inr (.inr (.inr (.inr (va_up f j (some v)))))))) := by
  rw [nI_clamp (by omega)]
  have he : (va_up (fun j => (f j).map K.2.2.1) j (some (K.2.2.1 v))) = (fun i => (va_up f j (some v) i).map K.2.2.1) := by
    funext i
    unfold va_up
    split <;> rfl
  rw [he]
  exact am_w_set (c := .inl (t, n, .inr (.inr (.inr (.inr (va_up f j (some v)))))))
theorem am_fl_at {n a b : Nat} (h : am_fl.elem (oc, n, a, b) = true) : ∃ C T N, am_cl[a]? = some (C, T, N) ∧ b < N ∧ Cond.fieldLink (am_own oc) n (T b).1 (T b).2.1 (T b).2.2.1 ∈ am_TB := by
  have h1 : am_flP (oc, n, a, b) := am_fl_ok _ (List.mem_of_elem_eq_true h)
  unfold am_flP at h1
  dsimp only at h1
  split at h1
  · next C T N hc => exact ⟨C, T, N, hc, h1⟩
  · exact h1.elim
set_option maxHeartbeats 4000000 in
theorem am_okH {nx a b c' : Nat} {i : Instr} (X : am_Cx K A p s m args meth c oc nL cc rt ini) (hE : am_okE oc cc (pc, i, nx, a, b, c') = true)
    (hk : ∀ pc loc st hp nc ns, k pc loc st hp nc ns → am_Go K A p l e s m args below meth c nL al h0 d mc ms Q pc loc st hp nc ns)
    (h : am_stp d mc ms al ini rt post k i nx a b c' pc loc st hp nc ns) (hgrp : am_grp i = 1) :
    am_Go K A p l e s m args below meth c nL al h0 d mc ms Q pc loc st hp nc ns := by
  obtain ⟨hx, hb, hml, hrt, hlocks, hown, hts, hK, hTb, hA, hNx, hini⟩ := id X
  unfold am_okE at hE
  rw [Bool.and_eq_true] at hE
  obtain ⟨hE1, hE2⟩ := hE
  intro ls H locs hl hP hD hS hal
  cases i with
  | getfield n =>
    obtain ⟨rfl, hd⟩ := am_okDe hE1 2 rfl
    obtain ⟨C, T, N, hcl, hbN, hlk⟩ := am_fl_at hE2
    obtain ⟨x, r, rfl, h⟩ := am_r1e h
    obtain ⟨ci, fs, hc, h⟩ := am_obe h
    obtain ⟨h1, h4⟩ := am_te h
    have h1 := Nat.eq_of_beq_eq_true h1
    rw [h1] at hc
    clear h
    split at h4
    · next v hv =>
      exact va_get (D := K.1) (cl := am_cl) (v := am_v K v) hx hb hts (am_cl_ws hcl) hown hK hP x (am_w_at hc) hcl b hbN (hts _ hlk) (fun _ h9 => h9) (by rw [List.getElem?_map, hv]; rfl) hd (hk _ _ _ _ _ _ h4 ls H locs hl hP hD hS hal)
    · exact h4.elim
  | putfield n =>
    obtain ⟨rfl, hd⟩ := am_okDe hE1 2 rfl
    simp only [am_okX, Bool.and_eq_true] at hE2
    obtain ⟨hE2, hE3⟩ := hE2
    obtain ⟨C, T, N, hcl, hbN, hlk⟩ := am_fl_at hE2
    match st, h with
    | v :: .ref x :: r, h =>
      obtain ⟨ci, fs, hc, h⟩ := am_obe h
      obtain ⟨h1, h9⟩ := am_te h
      simp only [Bool.and_eq_true] at h1
      obtain ⟨⟨⟨h1, h2⟩, h3⟩, h4⟩ := h1
      have h1 := Nat.eq_of_beq_eq_true h1
      clear h
      subst h1
      have hlt : b < fs.length := by
        have := Nat.le_of_ble_eq_true h2
        omega
      obtain ⟨f1, f2⟩ := am_fite (K := K) h3
      obtain ⟨g1, g2, g3, g4, g5⟩ := am_cl_f hcl hbN
      have kk : ∀ (H1 : Heap) (locs1 : List Loc), va_P K.1 am_cl ((am_w K hp).set x (K.2.2.1 x, .inr (ci, (fs.map (am_v K)).set b (am_v K v)))) H1 → va_D A ((am_w K hp).set x (K.2.2.1 x, .inr (ci, (fs.map (am_v K)).set b (am_v K v)))) → va_S A s.heap H1 locs1 → W p l e (am_rm d mc ms) s m args below meth c H1 locs1 nc ns Q (F0 m (pc + 3) ls (r.map (am_v K))) := fun H1 locs1 hP1 hD1 hS1 => by
        rw [am_set_o] at hP1 hD1
        exact hk _ _ _ _ _ _ h9 ls H1 locs1 hl hP1 hD1 hS1 hal.set
      cases hf : am_F ci b with
      | false =>
        exact va_put (D := K.1) (cl := am_cl) (v := am_v K v) (ty := am_Y ci b) hx hb hts (am_cl_ws hcl) (am_Y ci) (fun k hk => (am_cl_f hcl hk).1) (fun a ha b hb hne => (am_cl_f hcl ha).2.2.2.1 b hb hne) hown hK hP hD hS x (am_w_at hc) hcl b hbN (hts _ hlk) (fun _ h9 => h9) (by rw [← g2]; exact hf) g1 f1 f2 (by rw [List.length_map]; exact hlt) hd kk
      | true =>
        rw [hf] at h4 hE3
        have hini1 : ini = true := by simpa using h4
        have hoc : ci = oc := by
          have h5 : Nat.beq ci oc = true := by simpa using hE3
          exact Nat.eq_of_beq_eq_true h5
        exact va_putF (D := K.1) (cl := am_cl) (v := am_v K v) (ty := am_Y ci b) hx hb hts (am_cl_ws hcl) (am_Y ci) (fun k hk => (am_cl_f hcl hk).1) (fun a ha b hb hne => (am_cl_f hcl ha).2.2.2.1 b hb hne) hown hK hP hD hS x (am_w_at hc) hcl b hbN (hts _ hlk) (fun _ h9 => h9) (by rw [← g2]; exact hf) (hini hini1) (by rw [g3, ← (am_cl_g hcl).2.2.1, hoc]) g1 f1 f2 (by rw [List.length_map]; exact hlt) hd kk
    | [], h => exact (show False from h).elim
    | [v], h => exact (show False from h).elim
    | v :: .int _ :: r, h => exact (show False from h).elim
    | v :: .long _ :: r, h => exact (show False from h).elim
    | v :: .float _ :: r, h => exact (show False from h).elim
    | v :: .double _ :: r, h => exact (show False from h).elim
    | v :: .null :: r, h => exact (show False from h).elim
    | v :: .retAddr _ :: r, h => exact (show False from h).elim
  | getstatic n =>
    obtain ⟨rfl, hd⟩ := am_okDe hE1 2 rfl
    simp only [am_okX, Bool.and_eq_true, decide_eq_true_eq] at hE2
    exact va_gets hx hb (hTb a hE2.1).2 hS hown (hts _ hE2.2) (fun _ h9 => h9) hd (hk _ _ _ _ _ _ h ls H locs hl hP hD hS hal)
  | iaload =>
    obtain ⟨rfl, hd⟩ := am_okDe hE1 0 rfl
    unfold am_stp at h
    dsimp only at h
    split at h
    · next i x r =>
      obtain ⟨n, f, hc, hn, j, hj, rfl, h9⟩ := am_aie h
      have he : (nI j).toNatClampNeg = j := nI_clamp (by omega)
      refine va_iald (D := K.1) (cl := am_cl) hx hb hK hP x 0 (am_w_at hc) (am_tysAt (by decide)) (vp_in_nI hj (by omega)) hd ?_
      rw [he]
      exact hk _ _ _ _ _ _ h9 ls H locs hl hP hD hS hal
    · next i t r =>
      obtain ⟨h1, j, hj, rfl, h9⟩ := am_te h
      have h1 : t < 4 := by
        have := Nat.le_of_ble_eq_true h1
        omega
      have he : (nI j).toNatClampNeg = j := nI_clamp (by omega)
      refine va_ti hx hb (hTb t h1).1 hS (by rw [am_tab6]; exact vp_in_nI hj (by omega)) rfl hd ?_
      rw [he]
      exact hk _ _ _ _ _ _ h9 ls H locs hl hP hD hS hal
    · exact h.elim
  | baload =>
    obtain ⟨rfl, hd⟩ := am_okDe hE1 0 rfl
    unfold am_stp at h
    dsimp only at h
    split at h
    · next i x r =>
      obtain ⟨n, f, hc, hn, j, hj, rfl, h9⟩ := am_abe h
      have he : (nI j).toNatClampNeg = j := nI_clamp (by omega)
      refine va_bald (D := K.1) (cl := am_cl) hx hb hK hP x 1 (am_w_at hc) (am_tysAt (by decide)) (vp_in_nI hj (by omega)) hd ?_
      rw [he]
      exact hk _ _ _ _ _ _ h9 ls H locs hl hP hD hS hal
    · exact h.elim
  | aaload =>
    obtain ⟨rfl, hd⟩ := am_okDe hE1 0 rfl
    unfold am_stp at h
    dsimp only at h
    split at h
    · next i x r =>
      obtain ⟨t, n, f, hc, hn, ht, j, q, hj, rfl, hq, h9⟩ := am_are h
      have he : (nI j).toNatClampNeg = j := nI_clamp (by omega)
      have ht4 : t < 4 := by omega
      have hob : ∃ C, am_ft t = .object C := by rcases ht with rfl | rfl <;> exact ⟨_, rfl⟩
      obtain ⟨C, hC⟩ := hob
      refine va_aldq (D := K.1) (cl := am_cl) (C := C) hx hb hK hP x t (am_w_at hc) (by rw [am_tysAt ht4, hC]) (vp_in_nI hj (by omega)) hd ?_
      rw [he, hq]
      exact hk _ _ _ _ _ _ h9 ls H locs hl hP hD hS hal
    · exact h.elim
  | iastore =>
    obtain ⟨rfl, hd⟩ := am_okDe hE1 0 rfl
    unfold am_stp at h
    dsimp only at h
    split at h
    · next y i x r =>
      obtain ⟨n, f, hc, hn, j, hj, rfl, h9⟩ := am_aie h
      refine va_iast (D := K.1) (cl := am_cl) hx hb hK hP hD hS x 0 (am_w_at hc) (am_tysAt (by decide)) (vp_in_nI hj (by omega)) hd (fun H1 locs1 hP1 hD1 hS1 => ?_)
      rw [am_set_i (t := 0) hj hn] at hP1 hD1
      exact hk _ _ _ _ _ _ h9 ls H1 locs1 hl hP1 hD1 hS1 hal.set
    · exact h.elim
  | bastore =>
    obtain ⟨rfl, hd⟩ := am_okDe hE1 0 rfl
    unfold am_stp at h
    dsimp only at h
    split at h
    · next y i x r =>
      obtain ⟨n, f, hc, hn, j, hj, rfl, h9⟩ := am_abe h
      refine va_bast (D := K.1) (cl := am_cl) hx hb hK hP hD hS x 1 (am_w_at hc) (am_tysAt (by decide)) (vp_in_nI hj (by omega)) hd (fun H1 locs1 hP1 hD1 hS1 => ?_)
      rw [vp_nar_byte, am_set_i (t := 1) hj hn] at hP1 hD1
      exact hk _ _ _ _ _ _ h9 ls H1 locs1 hl hP1 hD1 hS1 hal.set
    · exact h.elim
  | aastore =>
    obtain ⟨rfl, hd⟩ := am_okDe hE1 0 rfl
    unfold am_stp at h
    dsimp only at h
    split at h
    · next v i x r =>
      obtain ⟨t, n, f, hc, hn, ht, h⟩ := am_are h
      obtain ⟨ci, fs, hv, h⟩ := am_obe h
      obtain ⟨h1, j, hj, rfl, h9⟩ := am_te h
      simp only [Bool.or_eq_true, Bool.and_eq_true] at h1
      have ht4 : t < 4 := by omega
      have hcl : ∃ q : vw_C, am_cl[ci]? = some q ∧ am_ft t = .object q.1 := by
        rcases h1 with ⟨h1, h2⟩ | ⟨h1, h2⟩
        · have h1 := Nat.eq_of_beq_eq_true h1
          have h2 := Nat.eq_of_beq_eq_true h2
          subst h1 h2
          exact ⟨_, rfl, rfl⟩
        · have h1 := Nat.eq_of_beq_eq_true h1
          have h2 := Nat.eq_of_beq_eq_true h2
          subst h1 h2
          exact ⟨_, rfl, rfl⟩
      obtain ⟨q, hq, hft⟩ := hcl
      refine va_astq (D := K.1) (cl := am_cl) hx hb hK hP hD hS x t v ci (am_w_at hc) (by rw [am_tysAt ht4, hft]) (am_w_at hv) hq (vp_in_nI hj (by omega)) hd (fun H1 locs1 hP1 hD1 hS1 => ?_)
      rw [am_set_r (t := t) hj hn] at hP1 hD1
      exact hk _ _ _ _ _ _ h9 ls H1 locs1 hl hP1 hD1 hS1 hal.set
    · exact h.elim
  | arraylength =>
    obtain ⟨rfl, hd⟩ := am_okDe hE1 0 rfl
    obtain ⟨x, r, rfl, h9⟩ := am_r1e h
    clear h
    split at h9
    · next n f hc =>
      exact va_alen (D := K.1) (cl := am_cl) (v := nI n) hx hb hK hP x 0 (am_w_at hc) (am_tysAt (by decide)) rfl hd (hk _ _ _ _ _ _ h9 ls H locs hl hP hD hS hal)
    · next t n f hc =>
      obtain ⟨h1, h⟩ := am_te h9
      simp only [Bool.or_eq_true] at h1
      have ht : t = 2 ∨ t = 3 := h1.imp Nat.eq_of_beq_eq_true Nat.eq_of_beq_eq_true
      exact va_alen (D := K.1) (cl := am_cl) (v := nI n) hx hb hK hP x t (am_w_at hc) (am_tysAt (by omega)) rfl hd (hk _ _ _ _ _ _ h ls H locs hl hP hD hS hal)
    · exact h9.elim
  | _ => first | exact absurd (show (0 : Nat) = 1 from hgrp) (by decide) | exact absurd (show (2 : Nat) = 1 from hgrp) (by decide)
end AMH
end
section
section AMC
variable {p : Program} {l : Launch} {e : Env} {s : State} {m : MethodId} {args : Array Value} {below : List Frame} {meth : Method} {c : Code} {K : Am_X} {A : Nat → Prop} {oc nL h0 : Nat} {cc : ByteArray} {rt : Option FieldType} {ini al : Bool} {d mc ms : Nat} {Q : State → Prop}
variable {pc : Nat} {loc : List (Option Value)} {st : List Value} {hp : List Am_C} {nc ns : Nat} {ls : Array Slot} {H : Heap} {locs : List Loc}
variable {post : Option Value → List Am_C → Nat → Nat → Prop} {k : Am_K}
theorem am_good {Ts : List Cond} (hT : ∀ w ∈ am_TB, w ∈ Ts) {ws : List Cond} (h : ∀ w ∈ ws, w ∈ am_TB) : GoodIn Ts ws := fun w hw => ⟨hT w (h w hw), good_of_word (List.mem_filter.mp (h w hw)).2⟩
theorem am_wsTB {mi : Nat} (h : am_mP mi) : ∀ w ∈ am_ws mi, w ∈ am_TB := by
  intro w hw
  rcases List.mem_cons.mp hw with rfl | hw
  · exact h.1
  · exact hw
theorem am_rmR {d' mc' ms' maxL : Nat} (h : d' < d) (hm : maxL ≤ 20) : (am_rm d' mc' ms').frames + 1 ≤ (am_rm d mc ms).frames ∧ 8 + (maxL + 11) + (am_rm d' mc' ms').locals ≤ (am_rm d mc ms).locals := by
  show d' + 1 ≤ d ∧ 8 + (maxL + 11) + 40 * d' ≤ 40 * d
  omega
theorem am_rcve {ci : Nat} {v : Option Value} (h : am_rcv ci v hp = true) : ∃ x fs, v = some (.ref x) ∧ hp[x]? = some (.inr (ci, fs)) := by
  unfold am_rcv at h
  split at h
  · next x =>
    split at h
    · next c' fs hc =>
      have h1 := Nat.eq_of_beq_eq_true h
      subst h1
      exact ⟨x, fs, rfl, hc⟩
    · cases h
  · cases h
theorem am_split {b x : Nat} (hb : 0 < b) (h : st[b - 1]? = some (.ref x)) : st = st.take (b - 1) ++ .ref x :: st.drop b ∧ (st.take b).reverse = .ref x :: (st.take (b - 1)).reverse ∧ (st.take (b - 1)).length = b - 1 := by
  have hlt := (List.getElem?_eq_some_iff.mp h).1
  have hge : st[b - 1] = .ref x := (List.getElem?_eq_some_iff.mp h).2
  have e1 : st.take b = st.take (b - 1) ++ [.ref x] := by
    have h1 := List.take_succ_eq_append_getElem (l := st) (i := b - 1) hlt
    rw [show b - 1 + 1 = b by omega, hge] at h1
    exact h1
  refine ⟨?_, ?_, by rw [List.length_take]; omega⟩
  · conv => lhs; rw [← List.take_append_drop b st, e1]
    simp
  · rw [e1]; simp
theorem am_sumle {b : Nat} (h : Nat.ble (am_cs (st.drop b)) 8 = true) : 2 * (F0 m pc ls (st.map (am_v K))).monitorRoom + (((st.drop b).map (am_v K)).map fun v => v.category).sum ≤ 8 := by
  refine lv_room ?_
  rw [am_cats]
  exact Nat.le_of_ble_eq_true h
theorem am_lenp {desc : String} {b : Nat} (h : (parseMethodDescriptor desc).map (fun d => d.parameters.length + 1) = some b) : (parseMethodDescriptor desc).map (fun d => d.parameters.length) = some (b - 1) := by
  cases hq : parseMethodDescriptor desc with
  | none => rw [hq] at h; cases h
  | some q =>
    rw [hq] at h
    have h1 : q.parameters.length + 1 = b := Option.some.inj h
    rw [← h1]
    rfl
theorem am_rdyOf {al' : Bool} (hP : va_P K.1 am_cl (am_w K hp) H) (hS : va_S A s.heap H locs) (hal : am_Al K s al h0 mc ms hp nc ns) (hle : H.size ≤ s.heap.size + nc) (h : al' = true → al = true) : al' = true → ∀ k, hp.length ≤ k → K.2.2.1 k = H.size + (k - hp.length) := by
  intro q j hj
  have h1 := hal.2 (h q)
  have h2 := am_size hP hS h1 hle
  have h3 : K.2.2.1 hp.length = s.heap.size + nc := by rw [h1.2 hp.length (by omega)]; omega
  rw [h2, h3, h1.2 j (by omega)]
  omega
set_option maxHeartbeats 4000000 in
theorem am_okC {nx a b c' : Nat} {i : Instr} (X : am_Cx K A p s m args meth c oc nL cc rt ini) (hE : am_okE oc cc (pc, i, nx, a, b, c') = true)
    (hk : ∀ pc loc st hp nc ns, k pc loc st hp nc ns → am_Go K A p l e s m args below meth c nL al h0 d mc ms Q pc loc st hp nc ns)
    (h : am_stp d mc ms al ini rt post k i nx a b c' pc loc st hp nc ns) (hgrp : match i with
      | .invokevirtual _ => True | .invokestatic _ => True | .invokespecial _ => True | _ => False) :
    am_Go K A p l e s m args below meth c nL al h0 d mc ms Q pc loc st hp nc ns := by
  obtain ⟨hx, hb, hml, hrt, hlocks, hown, hts, hK, hTb, hA, hNx, hini⟩ := id X
  unfold am_okE at hE
  rw [Bool.and_eq_true] at hE
  obtain ⟨hE1, hE2⟩ := hE
  intro ls H locs hl hP hD hS hal
  have hfix : CallFix p m c cc nL s args am_TB (am_own oc) := ⟨hx, hb, hml, hown, hts⟩
  cases i with
  | invokevirtual n =>
    obtain ⟨rfl, hd⟩ := am_okDe hE1 2 rfl
    simp only [am_okX, Bool.and_eq_true, decide_eq_true_eq] at hE2
    obtain ⟨hE2, hb0⟩ := hE2
    obtain ⟨mP, w1, w2, w3, w4, w5, w6⟩ : am_mkP (oc, n, a, b, c', 0) := am_mk_ok _ (List.mem_of_elem_eq_true hE2)
    obtain ⟨h1, d', r, hp', hd', hEv, h2⟩ := am_te h
    obtain ⟨h2, h3⟩ := am_te h2
    rw [Bool.and_eq_true] at h1
    obtain ⟨x, fs, hv, hc⟩ := am_rcve h1.1
    obtain ⟨s1, s2, s3⟩ := am_split hb0 hv
    obtain ⟨q, hq⟩ := am_cl_lt w6
    obtain ⟨C, T, N⟩ := q
    have hCn : C = (am_m a).1.cls := by rw [← (am_cl_g hq).2.2.1]; exact w5
    refine am_after (hp := hp) (hp' := hp') (r := r) (rest := st.drop b) (mc' := 0) (ms' := 0) (a := ((st.take b).reverse.map (am_v K)).toArray) X hP hD hS ?_ (fun H1 locs1 hP1 hD1 hS1 => hk _ _ _ _ _ _ h3 ls H1 locs1 hl hP1 hD1 hS1 ?_)
    · have hM := hEv l K H.size
      rw [s2, List.map_cons] at hM ⊢
      refine va_runV (b := K.2.2.1 x) (C := C) (As := (st.take (b - 1)).reverse.map (am_v K)) (rest := (st.drop b).map (am_v K)) hfix hM (cwV (b - 1) hts (am_good (fun _ h => h) ?_) rfl rfl rfl ⟨hCn.symm, mP.2.2.1.1, mP.2.2.1.2, am_lenp w4⟩ (am_rmR hd' mP.2.2.2.1)) ⟨am_blind _, va_recv hK hP hq (am_w_at hc), ?_⟩ rfl ?_ hl.1 ?_ (am_sumle h1.2) hd ⟨?_, ?_⟩
      · intro w hw
        rw [hCn] at hw
        simp only [wsV, List.mem_append, List.mem_cons, List.not_mem_nil, or_false] at hw
        rcases hw with (rfl | rfl | rfl | rfl) | hw
        · exact w1
        · exact w2
        · exact w3
        · exact mP.2.1
        · exact am_wsTB mP w hw
      · have h5 := am_pre (al' := false) X hP hD hS (fun q => by cases q) ((st.take b).reverse.map (am_v K))
        rw [s2, List.map_cons] at h5
        exact h5
      · rw [List.length_map, List.length_reverse]; exact s3
      · show st.map (am_v K) = _
        conv => lhs; rw [s1]
        simp
        rfl
      · exact hal.1.1
      · exact hal.1.2
    · refine ⟨hal.1, fun q => ?_⟩
      have h6 := hal.2 q
      have h7 : hp'.length = hp.length := by
        rw [q] at h2
        exact Nat.eq_of_beq_eq_true (by simpa using h2)
      rw [h7]
      exact h6
  | invokestatic n =>
    obtain ⟨rfl, hd⟩ := am_okDe hE1 2 rfl
    simp only [am_okX] at hE2
    unfold am_stp at h
    dsimp only at h
    have hszl : ls.size = nL := hl.1
    cases e1 : Nat.beq a 9001 with
    | true =>
      rw [e1] at h hE2
      dsimp only [cond_true] at h hE2
      have w1 : am_mkP (oc, n, a, b, c', 4) := am_mk_ok _ (List.mem_of_elem_eq_true hE2)
      split at h
      · next n' dp dst sp src r _ =>
        obtain ⟨n0, f, hc0, hn0, h⟩ := am_aie h
        obtain ⟨n1, g, hc1, hn1, h⟩ := am_aie h
        obtain ⟨h1, nn, dpn, spn, rfl, rfl, rfl, q1, q2, h9⟩ := am_te h
        rw [Bool.and_eq_true] at h1
        have hd0 : 0 < d := by
          have := Nat.le_of_ble_eq_true h1.2
          omega
        have a1 : (nI nn).toNatClampNeg = nn := nI_clamp (by omega)
        have a2 : (nI dpn).toNatClampNeg = dpn := nI_clamp (by omega)
        have a3 : (nI spn).toNatClampNeg = spn := nI_clamp (by omega)
        refine va_copyi (D := K.1) (cl := am_cl) (ty := .int) hx hb (by rw [hml, hszl]) hown (hts _ w1) (hts _ am_obj_ok.2.2.1) (hts _ am_obj_ok.2.2.2.1) (hts _ am_obj_ok.2.2.2.2.1) hK hP hD hS src dst 0 0 (am_w_at hc0) (am_w_at hc1) (am_tysAt (by decide)) (am_tysAt (by decide)) rfl (nI_pos (by omega)) (nI_pos (by omega)) (nI_pos (by omega)) (by rw [a1, a3]; exact q1) (by rw [a1, a2]; exact q2) (fun _ _ => rfl) hd0 ?_ hd (fun H1 locs1 hP1 hD1 hS1 => ?_)
        · rw [am_cats]
          have h5 : am_cs r ≤ 8 := Nat.le_of_ble_eq_true h1.1
          have h6 : nativeFrameWords "java/lang/System" "arraycopy" 5 + 11 ≤ 32 := by decide
          show (r.map fun v => v.category).sum + _ ≤ 40 * d
          unfold am_cs at h5
          omega
        · have e5 : (am_w K hp).set dst (K.2.2.1 dst, .inl (K.2.1 (am_ft 0), n1, .inl (va_cpy f g (nI spn).toNatClampNeg (nI dpn).toNatClampNeg (nI nn).toNatClampNeg))) = am_w K (hp.set dst (.inl (0, n1, .inl (va_cpy f g spn dpn nn)))) := by
            rw [a1, a2, a3]
            exact am_w_set (c := .inl (0, n1, .inl (va_cpy f g spn dpn nn)))
          have e6 : am_vA K (n1, .inl g) = (n1, .inl g) := rfl
          have hP2 : va_P K.1 am_cl (am_w K (hp.set dst (.inl (0, n1, .inl (va_cpy f g spn dpn nn))))) H1 := by rw [← e5]; exact hP1
          have hD2 : va_D A (am_w K (hp.set dst (.inl (0, n1, .inl (va_cpy f g spn dpn nn))))) := by rw [← e5]; exact hD1
          exact hk _ _ _ _ _ _ h9 ls H1 locs1 hl hP2 hD2 hS1 hal.set
      · exact h.elim
    | false =>
      rw [e1] at h hE2
      dsimp only [cond_false] at h hE2
      cases e2 : Nat.beq a 9002 with
      | true =>
        rw [e2] at h hE2
        dsimp only [cond_true] at h hE2
        have w1 : am_mkP (oc, n, a, b, c', 6) := am_mk_ok _ (List.mem_of_elem_eq_true hE2)
        obtain ⟨x, y, r, rfl, h⟩ := am_i2e h
        obtain ⟨h1, h9⟩ := am_te h
        rw [Bool.and_eq_true] at h1
        have hd0 : 0 < d := by
          have := Nat.le_of_ble_eq_true h1.2
          omega
        refine va_mmax (R := am_rm d mc ms) hx hb (by rw [hml, hszl]) hown (hts _ w1) (hts _ am_mth_ok.1) (hts _ am_mth_ok.2.1) (hts _ am_mth_ok.2.2.1) hd0 ?_ hal.1.1 hal.1.2 hd (hk _ _ _ _ _ _ h9 ls H locs hl hP hD hS hal)
        rw [am_cats]
        have h5 : am_cs r ≤ 8 := Nat.le_of_ble_eq_true h1.1
        show (r.map fun v => v.category).sum + 13 ≤ 40 * d
        unfold am_cs at h5
        omega
      | false =>
        rw [e2] at h hE2
        dsimp only [cond_false] at h hE2
        cases e3 : Nat.beq a 9003 with
        | true =>
          rw [e3] at h hE2
          dsimp only [cond_true] at h hE2
          have w1 : am_mkP (oc, n, a, b, c', 7) := am_mk_ok _ (List.mem_of_elem_eq_true hE2)
          obtain ⟨x, y, r, rfl, h⟩ := am_i2e h
          obtain ⟨h1, h9⟩ := am_te h
          rw [Bool.and_eq_true] at h1
          have hd0 : 0 < d := by
            have := Nat.le_of_ble_eq_true h1.2
            omega
          refine va_mmin (R := am_rm d mc ms) hx hb (by rw [hml, hszl]) hown (hts _ w1) (hts _ am_mth_ok.2.2.2.1) (hts _ am_mth_ok.2.1) (hts _ am_mth_ok.2.2.2.2) hd0 ?_ hal.1.1 hal.1.2 hd (hk _ _ _ _ _ _ h9 ls H locs hl hP hD hS hal)
          rw [am_cats]
          have h5 : am_cs r ≤ 8 := Nat.le_of_ble_eq_true h1.1
          show (r.map fun v => v.category).sum + 13 ≤ 40 * d
          unfold am_cs at h5
          omega
        | false =>
          rw [e3] at h hE2
          dsimp only [cond_false] at h hE2
          obtain ⟨mP, w1, w2, w4⟩ : am_mkP (oc, n, a, b, c', 1) := am_mk_ok _ (List.mem_of_elem_eq_true hE2)
          obtain ⟨h1, d', r, hp', hd', hEv, h2⟩ := am_te h
          obtain ⟨h2, h3⟩ := am_te h2
          rw [Bool.and_eq_true] at h1
          have hlen : b ≤ st.length := Nat.le_of_ble_eq_true h1.1
          refine am_after (hp := hp) (hp' := hp') (r := r) (rest := st.drop b) (mc' := 0) (ms' := 0) (a := ((st.take b).reverse.map (am_v K)).toArray) X hP hD hS ?_ (fun H1 locs1 hP1 hD1 hS1 => hk _ _ _ _ _ _ h3 ls H1 locs1 hl hP1 hD1 hS1 ?_)
          · refine va_runS (As := (st.take b).reverse.map (am_v K)) (rest := (st.drop b).map (am_v K)) hfix (hEv l K H.size) (va_cwS b hts (am_good (fun _ h => h) ?_) rfl rfl rfl ⟨mP.2.2.1.1, mP.2.2.1.2, w4⟩ (am_rmR hd' mP.2.2.2.1)) ⟨am_blind _, am_pre (al' := false) X hP hD hS (fun q => by cases q) _⟩ rfl ?_ hl.1 ?_ (am_sumle h1.2) hd ⟨hal.1.1, hal.1.2⟩
            · intro w hw
              simp only [va_wsS, List.mem_append, List.mem_cons, List.not_mem_nil, or_false] at hw
              rcases hw with (rfl | rfl | rfl) | hw
              · exact w1
              · exact w2
              · exact mP.2.1
              · exact am_wsTB mP w hw
            · rw [List.length_map, List.length_reverse, List.length_take]; omega
            · show st.map (am_v K) = _
              conv => lhs; rw [← List.take_append_drop b st]
              simp
          · refine ⟨hal.1, fun q => ?_⟩
            have h6 := hal.2 q
            have h7 : hp'.length = hp.length := by
              rw [q] at h2
              exact Nat.eq_of_beq_eq_true (by simpa using h2)
            rw [h7]
            exact h6
  | invokespecial n =>
    obtain ⟨rfl, hd⟩ := am_okDe hE1 2 rfl
    simp only [am_okX] at hE2
    unfold am_stp at h
    dsimp only at h
    have hszl : ls.size = nL := hl.1
    cases e1 : Nat.beq a 9000 with
    | true =>
      rw [e1] at h hE2
      dsimp only [cond_true] at h hE2
      have w1 : am_mkP (oc, n, a, b, c', 3) := am_mk_ok _ (List.mem_of_elem_eq_true hE2)
      obtain ⟨x, r, rfl, h⟩ := am_r1e h
      obtain ⟨h1, h9⟩ := am_te h
      rw [Bool.and_eq_true] at h1
      have hd0 : 0 < d := by
        have := Nat.le_of_ble_eq_true h1.2
        omega
      refine W.objInit hx hb hown (hts _ w1) (hts _ am_obj_ok.1) (hts _ am_obj_ok.2.1) rfl (by rw [hml]; exact hszl) rfl hd hd0 ?_ (hk _ _ _ _ _ _ h9 ls H locs hl hP hD hS hal)
      have h5 : am_cs r ≤ 8 := Nat.le_of_ble_eq_true h1.1
      show 2 * 0 + ((r.map (am_v K)).map fun v => v.category).sum + 12 ≤ 40 * d
      rw [am_cats]
      unfold am_cs at h5
      omega
    | false =>
      rw [e1] at h hE2
      dsimp only [cond_false] at h hE2
      simp only [Bool.and_eq_true, Bool.or_eq_true, decide_eq_true_eq] at hE2
      obtain ⟨hE2, hb0⟩ := hE2
      obtain ⟨h1, al', d', mc', ms', hp', hal', hd', hmc, hms, hEv, h2⟩ := am_te h
      obtain ⟨h2, h3⟩ := am_te h2
      rw [Bool.and_eq_true] at h1
      obtain ⟨x, fs, hv, hc⟩ := am_rcve h1.1
      obtain ⟨s1, s2, s3⟩ := am_split hb0 hv
      refine am_W_size (fun hsz => ?_)
      have hrd := am_rdyOf hP hS hal hsz hal'
      refine am_after (hp := hp) (hp' := hp') (r := none) (rest := st.drop b) (mc' := mc') (ms' := ms') (a := ((st.take b).reverse.map (am_v K)).toArray) X hP hD hS ?_ (fun H1 locs1 hP1 hD1 hS1 => hk _ _ _ _ _ _ h3 ls H1 locs1 hl hP1 hD1 hS1 ⟨⟨hmc, hms⟩, fun q => ?_⟩)
      · have hM := hEv l K H.size
        have h5 := am_pre (al' := al') X hP hD hS hrd ((st.take b).reverse.map (am_v K))
        rw [s2, List.map_cons] at hM h5 ⊢
        have hstk : st.map (am_v K) = ((st.take (b - 1)).reverse.map (am_v K)).reverse ++ .ref (K.2.2.1 x) :: (st.drop b).map (am_v K) := by
          conv => lhs; rw [s1]
          simp
          rfl
        rcases hE2 with hE2 | hE2
        · obtain ⟨mP, w1, w2, w4, w5, w6⟩ : am_mkP (oc, n, a, b, c', 2) := am_mk_ok _ (List.mem_of_elem_eq_true hE2)
          have hws : am_ws a = Cond.code (am_m a).1 (am_m a).2.1 (am_m a).2.2.1 none :: am_TB := by unfold am_ws; rw [w6]
          exact va_runI (b := K.2.2.1 x) (As := (st.take (b - 1)).reverse.map (am_v K)) (rest := (st.drop b).map (am_v K)) hfix hM (cwI (b - 1) hts (am_good (fun _ h => h) (am_wsTB mP)) hws rfl rfl (hts _ mP.2.1) (hts _ w1) (hts _ w2) w5 ⟨mP.2.2.1.1, mP.2.2.1.2, am_lenp w4⟩ (am_rmR hd' mP.2.2.2.1)) ⟨am_blind _, h5⟩ rfl (by rw [List.length_map, List.length_reverse]; exact s3) hl.1 hstk (am_sumle h1.2) hd ⟨hmc, hms⟩
        · obtain ⟨mP, w1, w2, w4, w5, w6⟩ : am_mkP (oc, n, a, b, c', 5) := am_mk_ok _ (List.mem_of_elem_eq_true hE2)
          have hws : am_ws a = Cond.code (am_m a).1 (am_m a).2.1 (am_m a).2.2.1 none :: am_TB := by unfold am_ws; rw [w6]
          exact va_runIN (b := K.2.2.1 x) (As := (st.take (b - 1)).reverse.map (am_v K)) (rest := (st.drop b).map (am_v K)) hfix hM ⟨va_cnB (b - 1) hts (am_good (fun _ h => h) (am_wsTB mP)) hws rfl rfl (hNx.1 _ _ _ _ w1) (hts _ mP.2.1) ⟨mP.2.2.1.1, mP.2.2.1.2, am_lenp w4⟩ (am_rmR hd' mP.2.2.2.1), w5, hts _ w2⟩ ⟨am_blind _, h5⟩ rfl (by rw [List.length_map, List.length_reverse]; exact s3) hl.1 hstk (am_sumle h1.2) hd ⟨hmc, hms⟩
      · have h6 := hal.2 q
        have h7 := Nat.eq_of_beq_eq_true h2
        refine ⟨?_, h6.2⟩
        rw [h7, h6.1]
        omega
  | _ => exact (show False from hgrp).elim
end AMC
end
section
section AMN
variable {p : Program} {l : Launch} {e : Env} {s : State} {m : MethodId} {args : Array Value} {below : List Frame} {meth : Method} {c : Code} {K : Am_X} {A : Nat → Prop} {oc nL h0 : Nat} {cc : ByteArray} {rt : Option FieldType} {ini al : Bool} {d mc ms : Nat} {Q : State → Prop}
variable {pc : Nat} {loc : List (Option Value)} {st : List Value} {hp : List Am_C} {nc ns : Nat} {ls : Array Slot} {H : Heap} {locs : List Loc}
variable {post : Option Value → List Am_C → Nat → Nat → Prop} {k : Am_K}
/-- one new cell at the heap's end -/
theorem am_push {H1 : Heap} {cn : Am_C} (hA : ∀ q, s.heap.size ≤ q → A q) (hP : va_P K.1 am_cl (am_w K hp) H) (hD : va_D A (am_w K hp)) (hS : va_S A s.heap H locs) (hal : am_Al K s al h0 mc ms hp nc ns) (hle : H.size ≤ s.heap.size + nc) (ha : al = true) (hz : H1.size = H.size + 1) (ho : ∀ q, q < H.size → H1[q]? = H[q]?) (hc : va_at K.1 am_cl (H.size, am_c K cn) H1) :
    K.2.2.1 hp.length = H.size ∧ va_P K.1 am_cl (am_w K (hp ++ [cn])) H1 ∧ va_D A (am_w K (hp ++ [cn])) ∧ va_S A s.heap H1 locs := by
  have h1 := hal.2 ha
  have h2 := am_size hP hS h1 hle
  refine ⟨h2.symm, ?_, ?_, ?_⟩
  · rw [am_w_app, ← h2]
    refine (hP.kept (fun k q hq => ho q.1 (hP k q hq).lt)).app (fun k q hq => ?_)
    have hz : k < 1 := (List.getElem?_eq_some_iff.mp hq).1
    rw [show k = 0 by omega] at hq
    cases hq
    exact hc
  · rw [am_w_app, ← h2]
    exact hD.push hP rfl (hA _ hS.1)
  · exact ⟨Nat.le_trans hS.1 (by omega), fun x g1 g2 => (ho x (Nat.lt_of_lt_of_le g1 hS.1)).trans (hS.2.1 x g1 g2), hS.2.2⟩
theorem am_alS {cn : Am_C} {n : Nat} (hal : am_Al K s al h0 mc ms hp nc ns) (h1 : nc + 1 ≤ mc) (h2 : ns + n ≤ ms) : am_Al K s al h0 mc ms (hp ++ [cn]) (nc + 1) (ns + n) := by
  refine ⟨⟨h1, h2⟩, fun q => ?_⟩
  obtain ⟨g1, g2⟩ := hal.2 q
  refine ⟨?_, g2⟩
  rw [List.length_append, g1]
  rfl
theorem am_dvv {ci : Nat} {C : String} {T : u_T} {N : Nat} (h : am_cl[ci]? = some (C, T, N)) : (am_dv ci).map (am_v K) = am_dv ci := by
  have h1 := (am_cl_g h).2.2.2.2
  have h2 : ∀ v ∈ am_dv ci, am_v K v = v := by
    intro v hv
    have h3 := List.all_eq_true.mp h1 v hv
    cases v <;> first | rfl | cases h3
  conv => rhs; rw [← List.map_id (am_dv ci)]
  exact List.map_congr_left h2
set_option maxHeartbeats 4000000 in
theorem am_okA {nx a b c' : Nat} {i : Instr} (X : am_Cx K A p s m args meth c oc nL cc rt ini) (hE : am_okE oc cc (pc, i, nx, a, b, c') = true)
    (hk : ∀ pc loc st hp nc ns, k pc loc st hp nc ns → am_Go K A p l e s m args below meth c nL al h0 d mc ms Q pc loc st hp nc ns)
    (h : am_stp d mc ms al ini rt post k i nx a b c' pc loc st hp nc ns) (hgrp : match i with
      | .new _ => True | .newarray _ => True | .anewarray _ => True | _ => False) :
    am_Go K A p l e s m args below meth c nL al h0 d mc ms Q pc loc st hp nc ns := by
  obtain ⟨hx, hb, hml, hrt, hlocks, hown, hts, hK, hTb, hA, hNx, hini⟩ := id X
  unfold am_okE at hE
  rw [Bool.and_eq_true] at hE
  obtain ⟨hE1, hE2⟩ := hE
  intro ls H locs hl hP hD hS hal
  refine am_W_size (fun hle => ?_)
  cases i with
  | new n =>
    obtain ⟨rfl, hd⟩ := am_okDe hE1 2 rfl
    simp only [am_okX, Bool.and_eq_true, decide_eq_true_eq] at hE2
    obtain ⟨w1, w2⟩ := hE2
    obtain ⟨h1, h9⟩ := am_te h
    simp only [Bool.and_eq_true] at h1
    obtain ⟨⟨⟨h1, h2⟩, h3⟩, h4⟩ := h1
    have h2 := Nat.le_of_ble_eq_true h2
    have h3 := Nat.le_of_ble_eq_true h3
    have h4 : a < 8 := by
      have := Nat.le_of_ble_eq_true h4
      omega
    obtain ⟨⟨C, T, N⟩, hq⟩ := am_cl_lt h4
    obtain ⟨g1, g2, g3, g4, g5⟩ := am_cl_g hq
    have hN : N = b := by rw [← g4]; exact w2
    subst hN
    rw [g3] at w1
    refine W.newcK hx hb hown (hts _ w1) (hts _ g1) (hts _ g2) rfl hd h2 h3 (hK.1 a _ hq).2.1 rfl fun H1 kC hkC e1 z1 o1 => ?_
    have hcell : va_at K.1 am_cl (H.size, am_c K (.inr (a, am_dv a))) H1 := by
      refine ⟨_, hq, ?_⟩
      have h5 := (u_born (am_Y a) hts (am_cl_ws hq) (hK.1 a _ hq) hkC e1 (fun k hk => (am_cl_f hq hk).1)).to (V' := vp_V (am_dv a)) (fun j hj => (am_cl_f hq hj).2.2.2.2)
      rw [am_dvv hq]
      exact h5
    obtain ⟨q1, q2, q3, q4⟩ := am_push (cn := .inr (a, am_dv a)) hA hP hD hS hal hle h1 z1 o1 hcell
    have h6 := hk _ _ _ _ _ _ h9 ls H1 locs hl q2 q3 q4 (am_alS hal h2 h3)
    rw [List.map_cons, show am_v K (.ref hp.length) = .ref H.size from by rw [← q1]; rfl] at h6
    exact h6
  | newarray ty =>
    obtain ⟨rfl, hd⟩ := am_okDe hE1 1 rfl
    cases ty with
    | int =>
      obtain ⟨x, r, rfl, n, rfl, h8⟩ := am_i1e h
      obtain ⟨h1, h9⟩ := am_te h8
      simp only [Bool.and_eq_true] at h1
      obtain ⟨⟨⟨h1, h2⟩, h3⟩, h4⟩ := h1
      have h2 := Nat.le_of_ble_eq_true h2
      have h3 := Nat.le_of_ble_eq_true h3
      have h4 := Nat.le_of_ble_eq_true h4
      refine va_newaK (atype := .int) hx hb (hts _ am_obj_ok.2.2.2.2.2.1) rfl hd rfl (nI_pos (by omega)) (nI_clamp (by omega)) (show n * 4 ≤ 536870912 by omega) h3 h4 rfl fun H1 cA e1 z1 o1 hAr hNm => ?_
      have hcA : cA = K.2.1 (am_ft 0) := by
        have h5 := (hK.2 0 _ (am_tysAt (by decide))).2
        exact Option.some.inj (hNm.symm.trans h5)
      have hcell : va_at K.1 am_cl (H.size, am_c K (.inl (0, n, .inl (fun _ => 0)))) H1 := by
        show H1[H.size]? = some (vp_cell (K.2.1 (am_ft 0)) (n, .inl (fun _ => 0)))
        rw [← hcA]
        exact e1
      obtain ⟨q1, q2, q3, q4⟩ := am_push (cn := .inl (0, n, .inl (fun _ => 0))) hA hP hD hS hal hle h1 z1 o1 hcell
      have h6 := hk _ _ _ _ _ _ h9 ls H1 locs hl q2 q3 q4 (am_alS hal h3 h4)
      rw [List.map_cons, show am_v K (.ref hp.length) = .ref H.size from by rw [← q1]; rfl] at h6
      exact h6
    | byte =>
      obtain ⟨x, r, rfl, n, rfl, h8⟩ := am_i1e h
      obtain ⟨h1, h9⟩ := am_te h8
      simp only [Bool.and_eq_true] at h1
      obtain ⟨⟨⟨h1, h2⟩, h3⟩, h4⟩ := h1
      have h2 := Nat.le_of_ble_eq_true h2
      have h3 := Nat.le_of_ble_eq_true h3
      have h4 := Nat.le_of_ble_eq_true h4
      refine va_newaK (atype := .byte) hx hb (hts _ am_obj_ok.2.2.2.2.2.2) rfl hd rfl (nI_pos (by omega)) (nI_clamp (by omega)) (show n * 1 ≤ 536870912 by omega) h3 h4 rfl fun H1 cA e1 z1 o1 hAr hNm => ?_
      have hcA : cA = K.2.1 (am_ft 1) := by
        have h5 := (hK.2 1 _ (am_tysAt (by decide))).2
        exact Option.some.inj (hNm.symm.trans h5)
      have hcell : va_at K.1 am_cl (H.size, am_c K (.inl (1, n, .inl (fun _ => 0)))) H1 := by
        show H1[H.size]? = some (vp_cell (K.2.1 (am_ft 1)) (n, .inl (fun _ => 0)))
        rw [← hcA]
        exact e1
      obtain ⟨q1, q2, q3, q4⟩ := am_push (cn := .inl (1, n, .inl (fun _ => 0))) hA hP hD hS hal hle h1 z1 o1 hcell
      have h6 := hk _ _ _ _ _ _ h9 ls H1 locs hl q2 q3 q4 (am_alS hal h3 h4)
      rw [List.map_cons, show am_v K (.ref hp.length) = .ref H.size from by rw [← q1]; rfl] at h6
      exact h6
    | _ => exact (show False from h).elim
  | anewarray n =>
    obtain ⟨rfl, hd⟩ := am_okDe hE1 2 rfl
    simp only [am_okX, Bool.and_eq_true, decide_eq_true_eq] at hE2
    obtain ⟨w1, w2⟩ := hE2
    obtain ⟨x, r, rfl, n', rfl, h8⟩ := am_i1e h
    obtain ⟨h1, h9⟩ := am_te h8
    simp only [Bool.and_eq_true] at h1
    obtain ⟨⟨⟨h1, h2⟩, h3⟩, h4⟩ := h1
    have h2 := Nat.le_of_ble_eq_true h2
    have h3 := Nat.le_of_ble_eq_true h3
    have h4 := Nat.le_of_ble_eq_true h4
    have e0 : (nI n').toNatClampNeg = n' := nI_clamp (by omega)
    have hft : am_ft (am_tag a) = .object (am_own a) ∧ va_AO (am_own a) s ∧ am_tag a < 4 := by
      rcases w2 with rfl | rfl
      · exact ⟨rfl, hNx.2.1, by decide⟩
      · exact ⟨rfl, hNx.2.2, by decide⟩
    refine W.anew hx hb hown (hts _ w1) (va_AO.use hft.2.1) rfl hd rfl (nI_pos (by omega)) (by rw [e0]; omega) h3 (by rw [e0]; exact h4) fun cA kA comp f1 f2 f3 f4 => ?_
    rw [e0]
    have hcA : cA = K.2.1 (am_ft (am_tag a)) := by
      have h5 := (hK.2 _ _ (am_tysAt hft.2.2)).2
      rw [hft.1] at h5 ⊢
      obtain ⟨_, _, _, _, _, h6⟩ := h5
      exact Option.some.inj (f1.symm.trans h6)
    generalize hH1 : H.push ({ cls := cA, slots := Array.replicate n' .null, vm := .none } : Cell) = H1
    have z1 : H1.size = H.size + 1 := by rw [← hH1, Array.size_push]
    have e1 : H1[H.size]? = some (arrV cA n' (fun _ => .null)) := by rw [← hH1, Array.getElem?_push_size, ← arrV_new]
    have o1 : ∀ q : Nat, q < H.size → H1[q]? = H[q]? := fun q hq => by rw [← hH1, Array.getElem?_push, if_neg (Nat.ne_of_lt hq)]
    have hcell : va_at K.1 am_cl (H.size, am_c K (.inl (am_tag a, n', .inr (.inr (.inr (.inr (fun _ => none))))))) H1 := by
      show H1[H.size]? = some (vp_cell (K.2.1 (am_ft (am_tag a))) (n', .inr (.inr (.inr (.inr (fun _ => none))))))
      rw [← hcA]
      exact e1
    obtain ⟨q1, q2, q3, q4⟩ := am_push (cn := .inl (am_tag a, n', .inr (.inr (.inr (.inr (fun _ => none)))))) hA hP hD hS hal hle h1 z1 o1 hcell
    have h6 := hk _ _ _ _ _ _ h9 ls H1 locs hl q2 q3 q4 (am_alS hal h3 h4)
    rw [List.map_cons, show am_v K (.ref hp.length) = .ref H.size from by rw [← q1]; rfl] at h6
    exact h6
  | _ => exact (show False from hgrp).elim
end AMN
section AMQ
variable {p : Program} {l : Launch} {e : Env} {s : State} {m : MethodId} {args : Array Value} {below : List Frame} {meth : Method} {c : Code} {K : Am_X} {oc nL : Nat} {cc : ByteArray} {rt : Option FieldType} {ini al : Bool} {d mc ms : Nat}
variable {pc : Nat} {loc : List (Option Value)} {st : List Value} {hp hp0 hpE : List Am_C} {nc ns : Nat} {r0 : Option Value}
variable {k : Am_K}
def am_post (r0 : Option Value) (hpE : List Am_C) (mc ms : Nat) : Option Value → List Am_C → Nat → Nat → Prop := fun v h n1 n2 => v = r0 ∧ h = hpE ∧ n1 = mc ∧ n2 = ms
abbrev am_Q (K : Am_X) (s : State) (args : Array Value) (below : List Frame) (hp0 hpE : List Am_C) (r0 : Option Value) (mc ms : Nat) : State → Prop := MQ below (am_Post K hp0 hpE s.heap.size r0) args s mc ms (am_fr K hp0 s.heap.size)
set_option maxHeartbeats 4000000 in
theorem am_okR {nx a b c' h0 : Nat} {i : Instr} (X : am_Cx K (am_fr K hp0 s.heap.size) p s m args meth c oc nL cc rt ini) (hE : am_okE oc cc (pc, i, nx, a, b, c') = true)
    (h : am_stp d mc ms al ini rt (am_post r0 hpE mc ms) k i nx a b c' pc loc st hp nc ns) (hgrp : match i with
      | .ireturn => True | .lreturn => True | .return_ => True | _ => False) :
    am_Go K (am_fr K hp0 s.heap.size) p l e s m args below meth c nL al h0 d mc ms (am_Q K s args below hp0 hpE r0 mc ms) pc loc st hp nc ns := by
  obtain ⟨hx, hb, hml, hrt, hlocks, hown, hts, hK, hTb, hA, hNx, hini⟩ := id X
  unfold am_okE at hE
  rw [Bool.and_eq_true] at hE
  obtain ⟨hE1, hE2⟩ := hE
  intro ls H locs hl hP hD hS hal
  cases i with
  | ireturn =>
    obtain ⟨rfl, hd⟩ := am_okDe hE1 0 rfl
    unfold am_stp at h
    dsimp only at h
    split at h
    · next v =>
      obtain ⟨rfl, rfl, rfl, rfl⟩ := h
      exact W.iret hx hb hrt (fun t ht hW => ⟨rfl, by rw [ht]; exact hP, hD, hS.F ht⟩) hS.2.2 hd hlocks
    · next v =>
      obtain ⟨hv, rfl, rfl, rfl, rfl⟩ := h
      exact W.zret hx hb hrt (by rcases hv with rfl | rfl <;> rfl) (fun t ht hW => ⟨rfl, by rw [ht]; exact hP, hD, hS.F ht⟩) hS.2.2 hd hlocks
    · exact h.elim
  | lreturn =>
    obtain ⟨rfl, hd⟩ := am_okDe hE1 0 rfl
    unfold am_stp at h
    dsimp only at h
    split at h
    · next v =>
      obtain ⟨rfl, rfl, rfl, rfl⟩ := h
      exact W.lret hx hb hrt (fun t ht hW => ⟨rfl, by rw [ht]; exact hP, hD, hS.F ht⟩) hS.2.2 hd hlocks
    · exact h.elim
  | return_ =>
    obtain ⟨rfl, hd⟩ := am_okDe hE1 0 rfl
    unfold am_stp at h
    dsimp only at h
    split at h
    · obtain ⟨rfl, rfl, rfl, rfl⟩ := h
      exact W.vret hx hb hrt (fun t ht hW => ⟨rfl, by rw [ht]; exact hP, hD, hS.F ht⟩) hS.2.2 hd hlocks
    · exact h.elim
  | _ => exact (show False from hgrp).elim
theorem am_okI {nx a b c' h0 : Nat} {i : Instr} (X : am_Cx K (am_fr K hp0 s.heap.size) p s m args meth c oc nL cc rt ini) (hE : am_okE oc cc (pc, i, nx, a, b, c') = true)
    (hk : ∀ pc loc st hp nc ns, k pc loc st hp nc ns → am_Go K (am_fr K hp0 s.heap.size) p l e s m args below meth c nL al h0 d mc ms (am_Q K s args below hp0 hpE r0 mc ms) pc loc st hp nc ns)
    (h : am_stp d mc ms al ini rt (am_post r0 hpE mc ms) k i nx a b c' pc loc st hp nc ns) :
    am_Go K (am_fr K hp0 s.heap.size) p l e s m args below meth c nL al h0 d mc ms (am_Q K s args below hp0 hpE r0 mc ms) pc loc st hp nc ns := by
  by_cases g0 : am_grp i = 0
  · exact am_okS X hE hk h g0
  by_cases g1 : am_grp i = 1
  · exact am_okH X hE hk h g1
  cases i with
  | invokevirtual n => exact am_okC X hE hk h trivial
  | invokestatic n => exact am_okC X hE hk h trivial
  | invokespecial n => exact am_okC X hE hk h trivial
  | new n => exact am_okA X hE hk h trivial
  | newarray n => exact am_okA X hE hk h trivial
  | anewarray n => exact am_okA X hE hk h trivial
  | ireturn => exact am_okR X hE h trivial
  | lreturn => exact am_okR X hE h trivial
  | return_ => exact am_okR X hE h trivial
  | _ => first | exact absurd rfl g0 | exact absurd rfl g1
theorem am_okB {h0 : Nat} {cd : List Am_E} {cuts : List Nat} {Go : Am_K} (X : am_Cx K (am_fr K hp0 s.heap.size) p s m args meth c oc nL cc rt ini) (hcd : ∀ e ∈ cd, am_okE oc cc e = true)
    (hGo : ∀ pc loc st hp nc ns, Go pc loc st hp nc ns → am_Go K (am_fr K hp0 s.heap.size) p l e s m args below meth c nL al h0 d mc ms (am_Q K s args below hp0 hpE r0 mc ms) pc loc st hp nc ns) :
    ∀ (n : Nat) pc loc st hp nc ns, am_blk cd cuts d mc ms al ini rt (am_post r0 hpE mc ms) Go n pc loc st hp nc ns → am_Go K (am_fr K hp0 s.heap.size) p l e s m args below meth c nL al h0 d mc ms (am_Q K s args below hp0 hpE r0 mc ms) pc loc st hp nc ns
  | 0, pc, loc, st, hp, nc, ns, h => (show False from h).elim
  | n + 1, pc, loc, st, hp, nc, ns, h => by
    have ih := am_okB (cuts := cuts) X hcd hGo n
    unfold am_blk at h
    split at h
    · exact h.elim
    · next i nx a b c' hlk =>
      refine am_okI X (hcd _ (am_lk_in hlk)) (fun pc' loc' st' hp' nc' ns' h' => ?_) h
      cases hb : cuts.elem pc' with
      | true => rw [hb] at h'; exact hGo _ _ _ _ _ _ h'
      | false => rw [hb] at h'; exact ih _ _ _ _ _ _ h'
end AMQ
/-- a method's code table is right -/
def am_okM (mi : Nat) (cd : List Am_E) : Prop := cd.all (am_okE (am_m mi).2.2.2.2 (am_m mi).2.1) = true
/-- THE RULE: a contract out of the abstract machine -/
theorem am_ev {al : Bool} {d mc ms mi : Nat} {args : List Value} {hp : List Am_C} {r : Option Value} {hp' : List Am_C} {cd : List Am_E} (nL : Nat) (rt : Option FieldType) (ini : Bool) (cuts : List Nat) (hok : am_okM mi cd) (hm : am_mP mi) (hnL : (am_m mi).2.2.1 = nL) (hrt : (am_m mi).2.2.2.1 = rt) (hini : ini = true → (am_m mi).1.name = "<init>") (hlen : (am_l0 args).length ≤ nL)
    (body : ∀ Go : Am_K, (∀ (n pc : Nat) (loc : List (Option Value)) (st : List Value) (hp : List Am_C) (nc ns : Nat), am_blk cd cuts d mc ms al ini rt (am_post r hp' mc ms) Go n pc loc st hp nc ns → Go pc loc st hp nc ns) → Go 0 (am_loc nL args) [] hp 0 0) : Am_Ev al d mc ms mi args hp r hp' := by
  intro l K sz
  refine Met.ofW (cc := (am_m mi).2.1) (maxL := (am_m mi).2.2.1) (ret := (am_m mi).2.2.2.1) hm.2.2.2.2.1 rfl ?_
  intro p e s m ar below meth c s₁ B hml hv
  obtain ⟨rfl, hsz, hP, hK, hD0, hTb, hNx, hrd⟩ := hv
  subst hsz
  have hts : ∀ w ∈ am_TB, w.before ((args.map (am_v K)).toArray) s = true := fun w hw => atoms_spec (ws := am_ws mi) B.pre w (List.mem_cons_of_mem _ hw)
  have hown : s.vm.findClass (am_own (am_m mi).2.2.2.2) = some m.cls := by
    rw [← hm.2.2.2.2.2]
    exact findClass_of_methodNamed B.named
  have X : am_Cx K (am_fr K hp s.heap.size) p s m ((args.map (am_v K)).toArray) meth c (am_m mi).2.2.2.2 nL (am_m mi).2.1 rt ini := ⟨B.exec, B.bytes, by rw [hml]; exact hnL, by rw [B.returns]; exact hrt, B.notSynchronized, hown, hts, hK, hTb, fun q h => Or.inr h, hNx, fun q => by rw [← hini q]; exact (name_of_methodNamed B.named B.method).1⟩
  have hG := body (am_Go K (am_fr K hp s.heap.size) p l e s m ((args.map (am_v K)).toArray) below meth c nL al hp.length d mc ms (am_Q K s ((args.map (am_v K)).toArray) below hp hp' r mc ms)) (fun n pc loc st hp1 nc ns h => am_okB X (fun e he => List.all_eq_true.mp hok e he) (fun _ _ _ _ _ _ h => h) n pc loc st hp1 nc ns h)
  rw [hnL, lg_entry_eq]
  exact hG _ s.heap [] (am_R_entry K args hlen) hP hD0.self va_S.rf ⟨⟨Nat.zero_le _, Nat.zero_le _⟩, fun q => ⟨rfl, hrd q⟩⟩
end
section
/-! ===== code tables, by program ===== -/
/-- ThingsThrown.<init>()V -/
abbrev n_T_init : Nat := 0
def cd_T_init : List Am_E := [(0, .aload_n 0, 1, 0, 0, 0), (1, .invokespecial 1, 4, 9000, 0, 0), (4, .aload_n 0, 5, 0, 0, 0), (5, .bipush 6, 7, 6, 0, 0), (7, .anewarray 9, 10, 4, 0, 0), (10, .putfield 11, 13, 0, 0, 0), (13, .aload_n 0, 14, 0, 0, 0), (14, .iconst 4, 15, 4, 0, 0), (15, .anewarray 9, 18, 4, 0, 0), (18, .putfield 15, 21, 0, 1, 0), (21, .aload_n 0, 22, 0, 0, 0), (22, .new 18, 25, 5, 2, 0), (25, .dup, 26, 0, 0, 0), (26, .invokespecial 20, 29, 1, 1, 5), (29, .putfield 21, 32, 0, 2, 0), (32, .aload_n 0, 33, 0, 0, 0), (33, .new 25, 36, 6, 2, 0), (36, .dup, 37, 0, 0, 0), (37, .invokespecial 27, 40, 2, 1, 6), (40, .putfield 28, 43, 0, 3, 0), (43, .aload_n 0, 44, 0, 0, 0), (44, .new 32, 47, 2, 7, 0), (47, .dup, 48, 0, 0, 0), (48, .invokespecial 34, 51, 3, 1, 2), (51, .putfield 35, 54, 0, 4, 0), (54, .aload_n 0, 55, 0, 0, 0), (55, .iconst 3, 56, 3, 0, 0), (56, .anewarray 32, 59, 2, 0, 0), (59, .putfield 39, 62, 0, 5, 0), (62, .aload_n 0, 63, 0, 0, 0), (63, .new 43, 66, 3, 4, 0), (66, .dup, 67, 0, 0, 0), (67, .aload_n 0, 68, 0, 0, 0), (68, .getfield 28, 71, 0, 3, 0), (71, .invokespecial 45, 74, 4, 2, 3), (74, .putfield 48, 77, 0, 6, 0), (77, .aload_n 0, 78, 0, 0, 0), (78, .new 52, 81, 1, 1, 0), (81, .dup, 82, 0, 0, 0), (82, .aload_n 0, 83, 0, 0, 0), (83, .getfield 28, 86, 0, 3, 0), (86, .invokespecial 54, 89, 5, 2, 1), (89, .putfield 55, 92, 0, 7, 0), (92, .aload_n 0, 93, 0, 0, 0), (93, .bipush 6, 95, 6, 0, 0), (95, .newarray .int, 97, 0, 0, 0), (97, .putfield 59, 100, 0, 8, 0), (100, .aload_n 0, 101, 0, 0, 0), (101, .iconst 0, 102, 0, 0, 0), (102, .putfield 63, 105, 0, 9, 0), (105, .aload_n 0, 106, 0, 0, 0), (106, .iconst 0, 107, 0, 0, 0), (107, .putfield 67, 110, 0, 10, 0), (110, .aload_n 0, 111, 0, 0, 0), (111, .lconst 0, 112, 0, 0, 0), (112, .putfield 70, 115, 0, 11, 0), (115, .aload_n 0, 116, 0, 0, 0), (116, .lconst 1, 117, 1, 0, 0), (117, .putfield 74, 120, 0, 12, 0), (120, .iconst 0, 121, 0, 0, 0), (121, .istore_n 1, 122, 0, 0, 0), (122, .iload_n 1, 123, 0, 0, 0), (123, .bipush 6, 125, 6, 0, 0), (125, .if_icmp .ge 26, 128, 151, 0, 0), (128, .aload_n 0, 129, 0, 0, 0), (129, .getfield 11, 132, 0, 0, 0), (132, .iload_n 1, 133, 0, 0, 0), (133, .new 9, 136, 4, 2, 0), (136, .dup, 137, 0, 0, 0), (137, .bipush 40, 139, 40, 0, 0), (139, .newarray .int, 141, 0, 0, 0), (141, .invokespecial 77, 144, 6, 2, 4), (144, .aastore, 145, 0, 0, 0), (145, .iinc 1 1, 148, 1, 0, 0), (148, .goto (-26), 151, 122, 0, 0), (151, .iconst 0, 152, 0, 0, 0), (152, .istore_n 1, 153, 0, 0, 0), (153, .iload_n 1, 154, 0, 0, 0), (154, .iconst 4, 155, 4, 0, 0), (155, .if_icmp .ge 26, 158, 181, 0, 0), (158, .aload_n 0, 159, 0, 0, 0), (159, .getfield 15, 162, 0, 1, 0), (162, .iload_n 1, 163, 0, 0, 0), (163, .new 9, 166, 4, 2, 0), (166, .dup, 167, 0, 0, 0), (167, .bipush 60, 169, 60, 0, 0), (169, .newarray .int, 171, 0, 0, 0), (171, .invokespecial 77, 174, 6, 2, 4), (174, .aastore, 175, 0, 0, 0), (175, .iinc 1 1, 178, 1, 0, 0), (178, .goto (-25), 181, 153, 0, 0), (181, .iconst 0, 182, 0, 0, 0), (182, .istore_n 1, 183, 0, 0, 0), (183, .iload_n 1, 184, 0, 0, 0), (184, .iconst 3, 185, 3, 0, 0), (185, .if_icmp .ge 31, 188, 216, 0, 0), (188, .aload_n 0, 189, 0, 0, 0), (189, .getfield 39, 192, 0, 5, 0), (192, .iload_n 1, 193, 0, 0, 0), (193, .new 32, 196, 2, 7, 0), (196, .dup, 197, 0, 0, 0), (197, .invokespecial 34, 200, 3, 1, 2), (200, .aastore, 201, 0, 0, 0), (201, .aload_n 0, 202, 0, 0, 0), (202, .getfield 39, 205, 0, 5, 0), (205, .iload_n 1, 206, 0, 0, 0), (206, .aaload, 207, 0, 0, 0), (207, .invokevirtual 80, 210, 7, 1, 2), (210, .iinc 1 1, 213, 1, 0, 0), (213, .goto (-30), 216, 183, 0, 0), (216, .return_, 217, 0, 0, 0)]
theorem ok_T_init : am_okM 0 cd_T_init := by unfold am_okM; rw [am_m_0]; decide +kernel
/-- ThingsThrown$Telling.<init>()V -/
abbrev n_L_init : Nat := 1
def cd_L_init : List Am_E := [(0, .aload_n 0, 1, 0, 0, 0), (1, .invokespecial 3, 4, 9000, 0, 0), (4, .aload_n 0, 5, 0, 0, 0), (5, .new 9, 8, 6, 2, 0), (8, .dup, 9, 0, 0, 0), (9, .invokespecial 11, 12, 2, 1, 6), (12, .putfield 12, 15, 5, 0, 0), (15, .aload_n 0, 16, 0, 0, 0), (16, .iconst 0, 17, 0, 0, 0), (17, .putfield 18, 20, 5, 1, 0), (20, .return_, 21, 0, 0, 0)]
theorem ok_L_init : am_okM 1 cd_L_init := by unfold am_okM; rw [am_m_1]; decide +kernel
/-- ThingsThrown$Troupe.<init>()V -/
abbrev n_P_init : Nat := 2
def cd_P_init : List Am_E := [(0, .aload_n 0, 1, 0, 0, 0), (1, .invokespecial 3, 4, 9000, 0, 0), (4, .aload_n 0, 5, 0, 0, 0), (5, .iconst 0, 6, 0, 0, 0), (6, .putfield 9, 9, 6, 0, 0), (9, .aload_n 0, 10, 0, 0, 0), (10, .bipush 6, 12, 6, 0, 0), (12, .newarray .int, 14, 0, 0, 0), (14, .putfield 15, 17, 6, 1, 0), (17, .return_, 18, 0, 0, 0)]
theorem ok_P_init : am_okM 2 cd_P_init := by unfold am_okM; rw [am_m_2]; decide +kernel
/-- ThingsThrown$Evening.<init>()V -/
abbrev n_E_init : Nat := 3
def cd_E_init : List Am_E := [(0, .aload_n 0, 1, 0, 0, 0), (1, .invokespecial 3, 4, 9000, 0, 0), (4, .aload_n 0, 5, 0, 0, 0), (5, .iconst 0, 6, 0, 0, 0), (6, .putfield 9, 9, 2, 0, 0), (9, .aload_n 0, 10, 0, 0, 0), (10, .iconst 0, 11, 0, 0, 0), (11, .putfield 15, 14, 2, 1, 0), (14, .aload_n 0, 15, 0, 0, 0), (15, .iconst 0, 16, 0, 0, 0), (16, .putfield 18, 19, 2, 2, 0), (19, .aload_n 0, 20, 0, 0, 0), (20, .bipush 6, 22, 6, 0, 0), (22, .newarray .int, 24, 0, 0, 0), (24, .putfield 21, 27, 2, 3, 0), (27, .aload_n 0, 28, 0, 0, 0), (28, .bipush 40, 30, 40, 0, 0), (30, .newarray .int, 32, 0, 0, 0), (32, .putfield 25, 35, 2, 4, 0), (35, .aload_n 0, 36, 0, 0, 0), (36, .bipush 40, 38, 40, 0, 0), (38, .newarray .int, 40, 0, 0, 0), (40, .putfield 28, 43, 2, 5, 0), (43, .aload_n 0, 44, 0, 0, 0), (44, .bipush 40, 46, 40, 0, 0), (46, .newarray .int, 48, 0, 0, 0), (48, .putfield 31, 51, 2, 6, 0), (51, .return_, 52, 0, 0, 0)]
theorem ok_E_init : am_okM 3 cd_E_init := by unfold am_okM; rw [am_m_3]; decide +kernel
/-- ThingsThrown$Outlook.<init>(LThingsThrown$Troupe;)V -/
abbrev n_O_init : Nat := 4
def cd_O_init : List Am_E := [(0, .aload_n 0, 1, 0, 0, 0), (1, .invokespecial 3, 4, 9000, 0, 0), (4, .aload_n 0, 5, 0, 0, 0), (5, .iconst 0, 6, 0, 0, 0), (6, .putfield 9, 9, 3, 1, 0), (9, .aload_n 0, 10, 0, 0, 0), (10, .iconst 4, 11, 4, 0, 0), (11, .newarray .int, 13, 0, 0, 0), (13, .putfield 15, 16, 3, 2, 0), (16, .aload_n 0, 17, 0, 0, 0), (17, .iconst 0, 18, 0, 0, 0), (18, .putfield 19, 21, 3, 3, 0), (21, .aload_n 0, 22, 0, 0, 0), (22, .aload_n 1, 23, 0, 0, 0), (23, .putfield 22, 26, 3, 0, 0), (26, .return_, 27, 0, 0, 0)]
theorem ok_O_init : am_okM 4 cd_O_init := by unfold am_okM; rw [am_m_4]; decide +kernel
/-- ThingsThrown$Chances.<init>(LThingsThrown$Troupe;)V -/
abbrev n_C_init : Nat := 5
def cd_C_init : List Am_E := [(0, .aload_n 0, 1, 0, 0, 0), (1, .invokespecial 3, 4, 9000, 0, 0), (4, .aload_n 0, 5, 0, 0, 0), (5, .aload_n 1, 6, 0, 0, 0), (6, .putfield 9, 9, 1, 0, 0), (9, .return_, 10, 0, 0, 0)]
theorem ok_C_init : am_okM 5 cd_C_init := by unfold am_okM; rw [am_m_5]; decide +kernel
/-- ThingsThrown$Sheet.<init>([I)V -/
abbrev n_S_init : Nat := 6
def cd_S_init : List Am_E := [(0, .aload_n 0, 1, 0, 0, 0), (1, .invokespecial 1, 4, 9000, 0, 0), (4, .aload_n 0, 5, 0, 0, 0), (5, .iconst (-1), 6, 1, 1, 0), (6, .putfield 9, 9, 4, 1, 0), (9, .aload_n 0, 10, 0, 0, 0), (10, .aload_n 1, 11, 0, 0, 0), (11, .putfield 13, 14, 4, 0, 0), (14, .return_, 15, 0, 0, 0)]
theorem ok_S_init : am_okM 6 cd_S_init := by unfold am_okM; rw [am_m_6]; decide +kernel
/-- ThingsThrown$Evening.forget()V -/
abbrev n_E_forget : Nat := 7
def cd_E_forget : List Am_E := [(0, .aload_n 0, 1, 0, 0, 0), (1, .iconst (-1), 2, 1, 1, 0), (2, .putfield 18, 5, 2, 2, 0), (5, .return_, 6, 0, 0, 0)]
theorem ok_E_forget : am_okM 7 cd_E_forget := by unfold am_okM; rw [am_m_7]; decide +kernel
/-- ThingsThrown.row(II)I -/
abbrev n_T_row : Nat := 8
def cd_T_row : List Am_E := [(0, .iload_n 1, 1, 0, 0, 0), (1, .invokestatic 83, 4, 9, 1, 0), (4, .ifCond .eq 9, 7, 13, 0, 0), (7, .iload_n 2, 8, 0, 0, 0), (8, .bipush 40, 10, 40, 0, 0), (10, .if_icmp .le 5, 13, 15, 0, 0), (13, .iconst (-1), 14, 1, 1, 0), (14, .ireturn, 15, 0, 0, 0), (15, .iload_n 2, 16, 0, 0, 0), (16, .ifCond .ge 9, 19, 25, 0, 0), (19, .aload_n 0, 20, 0, 0, 0), (20, .iconst 5, 21, 5, 0, 0), (21, .invokevirtual 87, 24, 10, 2, 0), (24, .ireturn, 25, 0, 0, 0), (25, .aload_n 0, 26, 0, 0, 0), (26, .getfield 11, 29, 0, 0, 0), (29, .iload_n 1, 30, 0, 0, 0), (30, .aaload, 31, 0, 0, 0), (31, .iload_n 2, 32, 0, 0, 0), (32, .iconst 0, 33, 0, 0, 0), (33, .invokevirtual 91, 36, 11, 3, 4), (36, .iload_n 2, 37, 0, 0, 0), (37, .ireturn, 38, 0, 0, 0)]
theorem ok_T_row : am_okM 8 cd_T_row := by unfold am_okM; rw [am_m_8]; decide +kernel
/-- ThingsThrown.isRow(I)Z -/
abbrev n_T_isRow : Nat := 9
def cd_T_isRow : List Am_E := [(0, .iload_n 0, 1, 0, 0, 0), (1, .ifCond .lt 13, 4, 14, 0, 0), (4, .iload_n 0, 5, 0, 0, 0), (5, .bipush 6, 7, 6, 0, 0), (7, .if_icmp .ge 7, 10, 14, 0, 0), (10, .iconst 1, 11, 1, 0, 0), (11, .goto 4, 14, 15, 0, 0), (14, .iconst 0, 15, 0, 0, 0), (15, .ireturn, 16, 0, 0, 0)]
theorem ok_T_isRow : am_okM 9 cd_T_isRow := by unfold am_okM; rw [am_m_9]; decide +kernel
/-- ThingsThrown.found(I)I -/
abbrev n_T_found : Nat := 10
def cd_T_found : List Am_E := [(0, .aload_n 0, 1, 0, 0, 0), (1, .iload_n 1, 2, 0, 0, 0), (2, .putfield 63, 5, 0, 9, 0), (5, .aload_n 0, 6, 0, 0, 0), (6, .getfield 59, 9, 0, 8, 0), (9, .iload_n 1, 10, 0, 0, 0), (10, .dup2, 11, 0, 0, 0), (11, .iaload, 12, 0, 0, 0), (12, .iconst 1, 13, 1, 0, 0), (13, .iadd, 14, 0, 0, 0), (14, .iastore, 15, 0, 0, 0), (15, .bipush (-3), 17, 3, 1, 0), (17, .ireturn, 18, 0, 0, 0)]
theorem ok_T_found : am_okM 10 cd_T_found := by unfold am_okM; rw [am_m_10]; decide +kernel
/-- ThingsThrown$Sheet.begin(II)V -/
abbrev n_S_begin : Nat := 11
def cd_S_begin : List Am_E := [(0, .aload_n 0, 1, 0, 0, 0), (1, .iconst 0, 2, 0, 0, 0), (2, .iload_n 1, 3, 0, 0, 0), (3, .aload_n 0, 4, 0, 0, 0), (4, .getfield 13, 7, 4, 0, 0), (7, .arraylength, 8, 0, 0, 0), (8, .invokestatic 17, 11, 9003, 0, 0), (11, .invokestatic 23, 14, 9002, 0, 0), (14, .putfield 9, 17, 4, 1, 0), (17, .iconst 0, 18, 0, 0, 0), (18, .istore_n 3, 19, 0, 0, 0), (19, .iload_n 3, 20, 0, 0, 0), (20, .aload_n 0, 21, 0, 0, 0), (21, .getfield 9, 24, 4, 1, 0), (24, .if_icmp .ge 16, 27, 40, 0, 0), (27, .aload_n 0, 28, 0, 0, 0), (28, .getfield 13, 31, 4, 0, 0), (31, .iload_n 3, 32, 0, 0, 0), (32, .iload_n 2, 33, 0, 0, 0), (33, .iastore, 34, 0, 0, 0), (34, .iinc 3 1, 37, 1, 0, 0), (37, .goto (-18), 40, 19, 0, 0), (40, .return_, 41, 0, 0, 0)]
theorem ok_S_begin : am_okM 11 cd_S_begin := by unfold am_okM; rw [am_m_11]; decide +kernel
/-- ThingsThrown.lay(III)I -/
abbrev n_T_lay : Nat := 12
def cd_T_lay : List Am_E := [(0, .aload_n 0, 1, 0, 0, 0), (1, .iload_n 1, 2, 0, 0, 0), (2, .iload_n 2, 3, 0, 0, 0), (3, .invokevirtual 95, 6, 13, 3, 0), (6, .istore 4, 8, 0, 0, 0), (8, .iload 4, 10, 0, 0, 0), (10, .ifCond .eq 6, 13, 16, 0, 0), (13, .iload 4, 15, 0, 0, 0), (15, .ireturn, 16, 0, 0, 0), (16, .aload_n 0, 17, 0, 0, 0), (17, .getfield 11, 20, 0, 0, 0), (20, .iload_n 1, 21, 0, 0, 0), (21, .aaload, 22, 0, 0, 0), (22, .getfield 99, 25, 4, 0, 0), (25, .iload_n 2, 26, 0, 0, 0), (26, .iaload, 27, 0, 0, 0), (27, .istore 5, 29, 0, 0, 0), (29, .aload_n 0, 30, 0, 0, 0), (30, .getfield 11, 33, 0, 0, 0), (33, .iload_n 1, 34, 0, 0, 0), (34, .aaload, 35, 0, 0, 0), (35, .getfield 99, 38, 4, 0, 0), (38, .iload_n 2, 39, 0, 0, 0), (39, .iload_n 3, 40, 0, 0, 0), (40, .iastore, 41, 0, 0, 0), (41, .aload_n 0, 42, 0, 0, 0), (42, .iload 5, 44, 0, 0, 0), (44, .invokevirtual 102, 47, 17, 2, 0), (47, .ireturn, 48, 0, 0, 0)]
theorem ok_T_lay : am_okM 12 cd_T_lay := by unfold am_okM; rw [am_m_12]; decide +kernel
/-- ThingsThrown.refusalOfPlace(II)I -/
abbrev n_T_refusalOfPlace : Nat := 13
def cd_T_refusalOfPlace : List Am_E := [(0, .aload_n 0, 1, 0, 0, 0), (1, .iload_n 1, 2, 0, 0, 0), (2, .invokevirtual 105, 5, 14, 2, 0), (5, .istore_n 3, 6, 0, 0, 0), (6, .iload_n 3, 7, 0, 0, 0), (7, .ifCond .eq 5, 10, 12, 0, 0), (10, .iload_n 3, 11, 0, 0, 0), (11, .ireturn, 12, 0, 0, 0), (12, .aload_n 0, 13, 0, 0, 0), (13, .getfield 11, 16, 0, 0, 0), (16, .iload_n 1, 17, 0, 0, 0), (17, .aaload, 18, 0, 0, 0), (18, .iload_n 2, 19, 0, 0, 0), (19, .invokevirtual 131, 22, 16, 2, 4), (22, .ifCond .eq 7, 25, 29, 0, 0), (25, .iconst 0, 26, 0, 0, 0), (26, .goto 8, 29, 34, 0, 0), (29, .aload_n 0, 30, 0, 0, 0), (30, .iconst 2, 31, 2, 0, 0), (31, .invokevirtual 87, 34, 10, 2, 0), (34, .ireturn, 35, 0, 0, 0)]
theorem ok_T_refusalOfPlace : am_okM 13 cd_T_refusalOfPlace := by unfold am_okM; rw [am_m_13]; decide +kernel
/-- ThingsThrown.refusalOfRow(I)I -/
abbrev n_T_refusalOfRow : Nat := 14
def cd_T_refusalOfRow : List Am_E := [(0, .iload_n 1, 1, 0, 0, 0), (1, .invokestatic 83, 4, 9, 1, 0), (4, .ifCond .ne 5, 7, 9, 0, 0), (7, .iconst (-1), 8, 1, 1, 0), (8, .ireturn, 9, 0, 0, 0), (9, .aload_n 0, 10, 0, 0, 0), (10, .getfield 11, 13, 0, 0, 0), (13, .iload_n 1, 14, 0, 0, 0), (14, .aaload, 15, 0, 0, 0), (15, .invokevirtual 111, 18, 15, 1, 4), (18, .ifCond .eq 11, 21, 29, 0, 0), (21, .aload_n 0, 22, 0, 0, 0), (22, .iconst 1, 23, 1, 0, 0), (23, .invokevirtual 87, 26, 10, 2, 0), (26, .goto 4, 29, 30, 0, 0), (29, .iconst 0, 30, 0, 0, 0), (30, .ireturn, 31, 0, 0, 0)]
theorem ok_T_refusalOfRow : am_okM 14 cd_T_refusalOfRow := by unfold am_okM; rw [am_m_14]; decide +kernel
/-- ThingsThrown$Sheet.isMissing()Z -/
abbrev n_S_isMissing : Nat := 15
def cd_S_isMissing : List Am_E := [(0, .aload_n 0, 1, 0, 0, 0), (1, .getfield 9, 4, 4, 1, 0), (4, .ifCond .ge 7, 7, 11, 0, 0), (7, .iconst 1, 8, 1, 0, 0), (8, .goto 4, 11, 12, 0, 0), (11, .iconst 0, 12, 0, 0, 0), (12, .ireturn, 13, 0, 0, 0)]
theorem ok_S_isMissing : am_okM 15 cd_S_isMissing := by unfold am_okM; rw [am_m_15]; decide +kernel
/-- ThingsThrown$Sheet.has(I)Z -/
abbrev n_S_has : Nat := 16
def cd_S_has : List Am_E := [(0, .iload_n 1, 1, 0, 0, 0), (1, .ifCond .lt 15, 4, 16, 0, 0), (4, .iload_n 1, 5, 0, 0, 0), (5, .aload_n 0, 6, 0, 0, 0), (6, .getfield 9, 9, 4, 1, 0), (9, .if_icmp .ge 7, 12, 16, 0, 0), (12, .iconst 1, 13, 1, 0, 0), (13, .goto 4, 16, 17, 0, 0), (16, .iconst 0, 17, 0, 0, 0), (17, .ireturn, 18, 0, 0, 0)]
theorem ok_S_has : am_okM 16 cd_S_has := by unfold am_okM; rw [am_m_16]; decide +kernel
/-- ThingsThrown.tell(I)I -/
abbrev n_T_tell : Nat := 17
def cd_T_tell : List Am_E := [(0, .aload_n 0, 1, 0, 0, 0), (1, .iload_n 1, 2, 0, 0, 0), (2, .putfield 67, 5, 0, 10, 0), (5, .iconst 1, 6, 1, 0, 0), (6, .ireturn, 7, 0, 0, 0)]
theorem ok_T_tell : am_okM 17 cd_T_tell := by unfold am_okM; rw [am_m_17]; decide +kernel
/-- ThingsThrown.at(II)I -/
abbrev n_T_at : Nat := 18
def cd_T_at : List Am_E := [(0, .aload_n 0, 1, 0, 0, 0), (1, .iload_n 1, 2, 0, 0, 0), (2, .iload_n 2, 3, 0, 0, 0), (3, .invokevirtual 95, 6, 13, 3, 0), (6, .istore_n 3, 7, 0, 0, 0), (7, .iload_n 3, 8, 0, 0, 0), (8, .ifCond .eq 7, 11, 15, 0, 0), (11, .iload_n 3, 12, 0, 0, 0), (12, .goto 18, 15, 30, 0, 0), (15, .aload_n 0, 16, 0, 0, 0), (16, .aload_n 0, 17, 0, 0, 0), (17, .getfield 11, 20, 0, 0, 0), (20, .iload_n 1, 21, 0, 0, 0), (21, .aaload, 22, 0, 0, 0), (22, .getfield 99, 25, 4, 0, 0), (25, .iload_n 2, 26, 0, 0, 0), (26, .iaload, 27, 0, 0, 0), (27, .invokevirtual 102, 30, 17, 2, 0), (30, .ireturn, 31, 0, 0, 0)]
theorem ok_T_at : am_okM 18 cd_T_at := by unfold am_okM; rw [am_m_18]; decide +kernel
/-- ThingsThrown.tear(I)I -/
abbrev n_T_tear : Nat := 19
def cd_T_tear : List Am_E := [(0, .aload_n 0, 1, 0, 0, 0), (1, .iload_n 1, 2, 0, 0, 0), (2, .invokevirtual 105, 5, 14, 2, 0), (5, .istore_n 2, 6, 0, 0, 0), (6, .iload_n 2, 7, 0, 0, 0), (7, .ifCond .eq 5, 10, 12, 0, 0), (10, .iload_n 2, 11, 0, 0, 0), (11, .ireturn, 12, 0, 0, 0), (12, .aload_n 0, 13, 0, 0, 0), (13, .getfield 11, 16, 0, 0, 0), (16, .iload_n 1, 17, 0, 0, 0), (17, .aaload, 18, 0, 0, 0), (18, .iconst (-1), 19, 1, 1, 0), (19, .putfield 108, 22, 4, 1, 0), (22, .iconst 1, 23, 1, 0, 0), (23, .ireturn, 24, 0, 0, 0)]
theorem ok_T_tear : am_okM 19 cd_T_tear := by unfold am_okM; rw [am_m_19]; decide +kernel
/-- ThingsThrown.copy(IIIII)I -/
abbrev n_T_copy : Nat := 20
def cd_T_copy : List Am_E := [(0, .iload_n 1, 1, 0, 0, 0), (1, .invokestatic 83, 4, 9, 1, 0), (4, .ifCond .eq 10, 7, 14, 0, 0), (7, .iload_n 3, 8, 0, 0, 0), (8, .invokestatic 83, 11, 9, 1, 0), (11, .ifCond .ne 5, 14, 16, 0, 0), (14, .iconst (-1), 15, 1, 1, 0), (15, .ireturn, 16, 0, 0, 0), (16, .iload 5, 18, 0, 0, 0), (18, .ifCond .ge 9, 21, 27, 0, 0), (21, .aload_n 0, 22, 0, 0, 0), (22, .iconst 5, 23, 5, 0, 0), (23, .invokevirtual 87, 26, 10, 2, 0), (26, .ireturn, 27, 0, 0, 0), (27, .aload_n 0, 28, 0, 0, 0), (28, .getfield 11, 31, 0, 0, 0), (31, .iload_n 1, 32, 0, 0, 0), (32, .aaload, 33, 0, 0, 0), (33, .invokevirtual 111, 36, 15, 1, 4), (36, .ifCond .ne 15, 39, 51, 0, 0), (39, .aload_n 0, 40, 0, 0, 0), (40, .getfield 11, 43, 0, 0, 0), (43, .iload_n 3, 44, 0, 0, 0), (44, .aaload, 45, 0, 0, 0), (45, .invokevirtual 111, 48, 15, 1, 4), (48, .ifCond .eq 9, 51, 57, 0, 0), (51, .aload_n 0, 52, 0, 0, 0), (52, .iconst 1, 53, 1, 0, 0), (53, .invokevirtual 87, 56, 10, 2, 0), (56, .ireturn, 57, 0, 0, 0), (57, .aload_n 0, 58, 0, 0, 0), (58, .getfield 11, 61, 0, 0, 0), (61, .iload_n 1, 62, 0, 0, 0), (62, .aaload, 63, 0, 0, 0), (63, .iload_n 2, 64, 0, 0, 0), (64, .iload 5, 66, 0, 0, 0), (66, .invokevirtual 115, 69, 21, 3, 4), (69, .ifCond .eq 19, 72, 88, 0, 0), (72, .aload_n 0, 73, 0, 0, 0), (73, .getfield 11, 76, 0, 0, 0), (76, .iload_n 3, 77, 0, 0, 0), (77, .aaload, 78, 0, 0, 0), (78, .iload 4, 80, 0, 0, 0), (80, .iload 5, 82, 0, 0, 0), (82, .invokevirtual 115, 85, 21, 3, 4), (85, .ifCond .ne 9, 88, 94, 0, 0), (88, .aload_n 0, 89, 0, 0, 0), (89, .iconst 2, 90, 2, 0, 0), (90, .invokevirtual 87, 93, 10, 2, 0), (93, .ireturn, 94, 0, 0, 0), (94, .aload_n 0, 95, 0, 0, 0), (95, .getfield 11, 98, 0, 0, 0), (98, .iload_n 1, 99, 0, 0, 0), (99, .aaload, 100, 0, 0, 0), (100, .getfield 99, 103, 4, 0, 0), (103, .iload_n 2, 104, 0, 0, 0), (104, .aload_n 0, 105, 0, 0, 0), (105, .getfield 11, 108, 0, 0, 0), (108, .iload_n 3, 109, 0, 0, 0), (109, .aaload, 110, 0, 0, 0), (110, .getfield 99, 113, 4, 0, 0), (113, .iload 4, 115, 0, 0, 0), (115, .iload 5, 117, 0, 0, 0), (117, .invokestatic 119, 120, 9001, 0, 0), (120, .iconst 1, 121, 1, 0, 0), (121, .ireturn, 122, 0, 0, 0)]
theorem ok_T_copy : am_okM 20 cd_T_copy := by unfold am_okM; rw [am_m_20]; decide +kernel
/-- ThingsThrown$Sheet.hasPart(II)Z -/
abbrev n_S_hasPart : Nat := 21
def cd_S_hasPart : List Am_E := [(0, .iload_n 1, 1, 0, 0, 0), (1, .ifCond .lt 29, 4, 30, 0, 0), (4, .iload_n 2, 5, 0, 0, 0), (5, .ifCond .lt 25, 8, 30, 0, 0), (8, .iload_n 2, 9, 0, 0, 0), (9, .aload_n 0, 10, 0, 0, 0), (10, .getfield 9, 13, 4, 1, 0), (13, .if_icmp .gt 17, 16, 30, 0, 0), (16, .iload_n 1, 17, 0, 0, 0), (17, .aload_n 0, 18, 0, 0, 0), (18, .getfield 9, 21, 4, 1, 0), (21, .iload_n 2, 22, 0, 0, 0), (22, .isub, 23, 0, 0, 0), (23, .if_icmp .gt 7, 26, 30, 0, 0), (26, .iconst 1, 27, 1, 0, 0), (27, .goto 4, 30, 31, 0, 0), (30, .iconst 0, 31, 0, 0, 0), (31, .ireturn, 32, 0, 0, 0)]
theorem ok_S_hasPart : am_okM 21 cd_S_hasPart := by unfold am_okM; rw [am_m_21]; decide +kernel
/-- ThingsThrown.mean(I)I -/
abbrev n_T_mean : Nat := 22
def cd_T_mean : List Am_E := [(0, .aload_n 0, 1, 0, 0, 0), (1, .iload_n 1, 2, 0, 0, 0), (2, .invokevirtual 105, 5, 14, 2, 0), (5, .istore_n 2, 6, 0, 0, 0), (6, .iload_n 2, 7, 0, 0, 0), (7, .ifCond .eq 5, 10, 12, 0, 0), (10, .iload_n 2, 11, 0, 0, 0), (11, .ireturn, 12, 0, 0, 0), (12, .aload_n 0, 13, 0, 0, 0), (13, .getfield 11, 16, 0, 0, 0), (16, .iload_n 1, 17, 0, 0, 0), (17, .aaload, 18, 0, 0, 0), (18, .astore_n 3, 19, 0, 0, 0), (19, .aload_n 3, 20, 0, 0, 0), (20, .getfield 108, 23, 4, 1, 0), (23, .ifCond .ne 9, 26, 32, 0, 0), (26, .aload_n 0, 27, 0, 0, 0), (27, .iconst 4, 28, 4, 0, 0), (28, .invokevirtual 87, 31, 10, 2, 0), (31, .ireturn, 32, 0, 0, 0), (32, .lconst 0, 33, 0, 0, 0), (33, .lstore 4, 35, 0, 0, 0), (35, .iconst 0, 36, 0, 0, 0), (36, .istore 6, 38, 0, 0, 0), (38, .iload 6, 40, 0, 0, 0), (40, .aload_n 3, 41, 0, 0, 0), (41, .getfield 108, 44, 4, 1, 0), (44, .if_icmp .ge 22, 47, 66, 0, 0), (47, .lload 4, 49, 0, 0, 0), (49, .aload_n 3, 50, 0, 0, 0), (50, .getfield 99, 53, 4, 0, 0), (53, .iload 6, 55, 0, 0, 0), (55, .iaload, 56, 0, 0, 0), (56, .i2l, 57, 0, 0, 0), (57, .ladd, 58, 0, 0, 0), (58, .lstore 4, 60, 0, 0, 0), (60, .iinc 6 1, 63, 1, 0, 0), (63, .goto (-25), 66, 38, 0, 0), (66, .aload_n 0, 67, 0, 0, 0), (67, .lload 4, 69, 0, 0, 0), (69, .aload_n 3, 70, 0, 0, 0), (70, .getfield 108, 73, 4, 1, 0), (73, .i2l, 74, 0, 0, 0), (74, .ldiv, 75, 0, 0, 0), (75, .l2i, 76, 0, 0, 0), (76, .invokevirtual 102, 79, 17, 2, 0), (79, .ireturn, 80, 0, 0, 0)]
theorem ok_T_mean : am_okM 22 cd_T_mean := by unfold am_okM; rw [am_m_22]; decide +kernel
/-- ThingsThrown.text(II)I -/
abbrev n_T_text : Nat := 23
def cd_T_text : List Am_E := [(0, .iload_n 1, 1, 0, 0, 0), (1, .invokestatic 125, 4, 24, 1, 0), (4, .ifCond .eq 9, 7, 13, 0, 0), (7, .iload_n 2, 8, 0, 0, 0), (8, .bipush 60, 10, 60, 0, 0), (10, .if_icmp .le 5, 13, 15, 0, 0), (13, .iconst (-1), 14, 1, 1, 0), (14, .ireturn, 15, 0, 0, 0), (15, .iload_n 2, 16, 0, 0, 0), (16, .ifCond .ge 9, 19, 25, 0, 0), (19, .aload_n 0, 20, 0, 0, 0), (20, .iconst 5, 21, 5, 0, 0), (21, .invokevirtual 87, 24, 10, 2, 0), (24, .ireturn, 25, 0, 0, 0), (25, .aload_n 0, 26, 0, 0, 0), (26, .getfield 15, 29, 0, 1, 0), (29, .iload_n 1, 30, 0, 0, 0), (30, .aaload, 31, 0, 0, 0), (31, .iload_n 2, 32, 0, 0, 0), (32, .bipush 32, 34, 32, 0, 0), (34, .invokevirtual 91, 37, 11, 3, 4), (37, .iload_n 2, 38, 0, 0, 0), (38, .ireturn, 39, 0, 0, 0)]
theorem ok_T_text : am_okM 23 cd_T_text := by unfold am_okM; rw [am_m_23]; decide +kernel
/-- ThingsThrown.isText(I)Z -/
abbrev n_T_isText : Nat := 24
def cd_T_isText : List Am_E := [(0, .iload_n 0, 1, 0, 0, 0), (1, .ifCond .lt 12, 4, 13, 0, 0), (4, .iload_n 0, 5, 0, 0, 0), (5, .iconst 4, 6, 4, 0, 0), (6, .if_icmp .ge 7, 9, 13, 0, 0), (9, .iconst 1, 10, 1, 0, 0), (10, .goto 4, 13, 14, 0, 0), (13, .iconst 0, 14, 0, 0, 0), (14, .ireturn, 15, 0, 0, 0)]
theorem ok_T_isText : am_okM 24 cd_T_isText := by unfold am_okM; rw [am_m_24]; decide +kernel
/-- ThingsThrown.put(III)I -/
abbrev n_T_put : Nat := 25
def cd_T_put : List Am_E := [(0, .aload_n 0, 1, 0, 0, 0), (1, .iload_n 1, 2, 0, 0, 0), (2, .invokevirtual 128, 5, 26, 2, 0), (5, .istore 4, 7, 0, 0, 0), (7, .iload 4, 9, 0, 0, 0), (9, .ifCond .eq 6, 12, 15, 0, 0), (12, .iload 4, 14, 0, 0, 0), (14, .ireturn, 15, 0, 0, 0), (15, .aload_n 0, 16, 0, 0, 0), (16, .getfield 15, 19, 0, 1, 0), (19, .iload_n 1, 20, 0, 0, 0), (20, .aaload, 21, 0, 0, 0), (21, .iload_n 2, 22, 0, 0, 0), (22, .invokevirtual 131, 25, 16, 2, 4), (25, .ifCond .ne 9, 28, 34, 0, 0), (28, .aload_n 0, 29, 0, 0, 0), (29, .iconst 2, 30, 2, 0, 0), (30, .invokevirtual 87, 33, 10, 2, 0), (33, .ireturn, 34, 0, 0, 0), (34, .aload_n 0, 35, 0, 0, 0), (35, .getfield 15, 38, 0, 1, 0), (38, .iload_n 1, 39, 0, 0, 0), (39, .aaload, 40, 0, 0, 0), (40, .getfield 99, 43, 4, 0, 0), (43, .iload_n 2, 44, 0, 0, 0), (44, .iaload, 45, 0, 0, 0), (45, .istore 5, 47, 0, 0, 0), (47, .aload_n 0, 48, 0, 0, 0), (48, .getfield 15, 51, 0, 1, 0), (51, .iload_n 1, 52, 0, 0, 0), (52, .aaload, 53, 0, 0, 0), (53, .getfield 99, 56, 4, 0, 0), (56, .iload_n 2, 57, 0, 0, 0), (57, .iload_n 3, 58, 0, 0, 0), (58, .i2b, 59, 0, 0, 0), (59, .iastore, 60, 0, 0, 0), (60, .iload 5, 62, 0, 0, 0), (62, .sipush 1000, 65, 1000, 0, 0), (65, .iadd, 66, 0, 0, 0), (66, .ireturn, 67, 0, 0, 0)]
theorem ok_T_put : am_okM 25 cd_T_put := by unfold am_okM; rw [am_m_25]; decide +kernel
/-- ThingsThrown.refusalOfText(I)I -/
abbrev n_T_refusalOfText : Nat := 26
def cd_T_refusalOfText : List Am_E := [(0, .iload_n 1, 1, 0, 0, 0), (1, .invokestatic 125, 4, 24, 1, 0), (4, .ifCond .ne 5, 7, 9, 0, 0), (7, .iconst (-1), 8, 1, 1, 0), (8, .ireturn, 9, 0, 0, 0), (9, .aload_n 0, 10, 0, 0, 0), (10, .getfield 15, 13, 0, 1, 0), (13, .iload_n 1, 14, 0, 0, 0), (14, .aaload, 15, 0, 0, 0), (15, .invokevirtual 111, 18, 15, 1, 4), (18, .ifCond .eq 11, 21, 29, 0, 0), (21, .aload_n 0, 22, 0, 0, 0), (22, .iconst 1, 23, 1, 0, 0), (23, .invokevirtual 87, 26, 10, 2, 0), (26, .goto 4, 29, 30, 0, 0), (29, .iconst 0, 30, 0, 0, 0), (30, .ireturn, 31, 0, 0, 0)]
theorem ok_T_refusalOfText : am_okM 26 cd_T_refusalOfText := by unfold am_okM; rw [am_m_26]; decide +kernel
/-- ThingsThrown.fault(I)I -/
abbrev n_T_fault : Nat := 27
def cd_T_fault : List Am_E := [(0, .aload_n 0, 1, 0, 0, 0), (1, .iload_n 1, 2, 0, 0, 0), (2, .invokevirtual 128, 5, 26, 2, 0), (5, .istore_n 2, 6, 0, 0, 0), (6, .iload_n 2, 7, 0, 0, 0), (7, .ifCond .eq 7, 10, 14, 0, 0), (10, .iload_n 2, 11, 0, 0, 0), (11, .goto 16, 14, 27, 0, 0), (14, .aload_n 0, 15, 0, 0, 0), (15, .getfield 21, 18, 0, 2, 0), (18, .aload_n 0, 19, 0, 0, 0), (19, .getfield 15, 22, 0, 1, 0), (22, .iload_n 1, 23, 0, 0, 0), (23, .aaload, 24, 0, 0, 0), (24, .invokevirtual 134, 27, 28, 2, 5), (27, .ireturn, 28, 0, 0, 0)]
theorem ok_T_fault : am_okM 27 cd_T_fault := by unfold am_okM; rw [am_m_27]; decide +kernel
/-- ThingsThrown$Telling.read(LThingsThrown$Sheet;)I -/
abbrev n_L_read : Nat := 28
def cd_L_read : List Am_E := [(0, .aload_n 0, 1, 0, 0, 0), (1, .getfield 12, 4, 5, 0, 0), (4, .invokevirtual 22, 7, 29, 1, 6), (7, .aload_n 0, 8, 0, 0, 0), (8, .iconst 0, 9, 0, 0, 0), (9, .putfield 18, 12, 5, 1, 0), (12, .iconst 0, 13, 0, 0, 0), (13, .istore_n 2, 14, 0, 0, 0), (14, .iload_n 2, 15, 0, 0, 0), (15, .aload_n 1, 16, 0, 0, 0), (16, .getfield 25, 19, 4, 1, 0), (19, .if_icmp .ge 117, 22, 136, 0, 0), (22, .aload_n 1, 23, 0, 0, 0), (23, .getfield 30, 26, 4, 0, 0), (26, .iload_n 2, 27, 0, 0, 0), (27, .iaload, 28, 0, 0, 0), (28, .bipush 32, 30, 32, 0, 0), (30, .if_icmp .ne 9, 33, 39, 0, 0), (33, .iinc 2 1, 36, 1, 0, 0), (36, .goto (-22), 39, 14, 0, 0), (39, .aload_n 1, 40, 0, 0, 0), (40, .getfield 30, 43, 4, 0, 0), (43, .iload_n 2, 44, 0, 0, 0), (44, .iaload, 45, 0, 0, 0), (45, .invokestatic 34, 48, 30, 1, 0), (48, .istore_n 3, 49, 0, 0, 0), (49, .iload_n 3, 50, 0, 0, 0), (50, .bipush (-9), 52, 9, 1, 0), (52, .if_icmp .eq 15, 55, 67, 0, 0), (55, .aload_n 0, 56, 0, 0, 0), (56, .getfield 12, 59, 5, 0, 0), (59, .getfield 40, 62, 6, 0, 0), (62, .bipush 6, 64, 6, 0, 0), (64, .if_icmp .ne 5, 67, 69, 0, 0), (67, .iload_n 2, 68, 0, 0, 0), (68, .ireturn, 69, 0, 0, 0), (69, .iinc 2 1, 72, 1, 0, 0), (72, .iload_n 2, 73, 0, 0, 0), (73, .aload_n 1, 74, 0, 0, 0), (74, .getfield 25, 77, 4, 1, 0), (77, .if_icmp .ge 16, 80, 93, 0, 0), (80, .aload_n 0, 81, 0, 0, 0), (81, .aload_n 1, 82, 0, 0, 0), (82, .getfield 30, 85, 4, 0, 0), (85, .iload_n 2, 86, 0, 0, 0), (86, .iaload, 87, 0, 0, 0), (87, .invokevirtual 41, 90, 31, 2, 5), (90, .ifCond .ne 5, 93, 95, 0, 0), (93, .iload_n 2, 94, 0, 0, 0), (94, .ireturn, 95, 0, 0, 0), (95, .aload_n 0, 96, 0, 0, 0), (96, .aload_n 0, 97, 0, 0, 0), (97, .getfield 18, 100, 5, 1, 0), (100, .aload_n 0, 101, 0, 0, 0), (101, .getfield 12, 104, 5, 0, 0), (104, .getfield 40, 107, 6, 0, 0), (107, .aload_n 1, 108, 0, 0, 0), (108, .getfield 30, 111, 4, 0, 0), (111, .iload_n 2, 112, 0, 0, 0), (112, .iaload, 113, 0, 0, 0), (113, .bipush 48, 115, 48, 0, 0), (115, .isub, 116, 0, 0, 0), (116, .invokestatic 45, 119, 34, 3, 0), (119, .putfield 18, 122, 5, 1, 0), (122, .aload_n 0, 123, 0, 0, 0), (123, .getfield 12, 126, 5, 0, 0), (126, .iload_n 3, 127, 0, 0, 0), (127, .invokevirtual 49, 130, 35, 2, 6), (130, .iinc 2 1, 133, 1, 0, 0), (133, .goto (-119), 136, 14, 0, 0), (136, .aload_n 0, 137, 0, 0, 0), (137, .getfield 12, 140, 5, 0, 0), (140, .getfield 40, 143, 6, 0, 0), (143, .ifCond .ne 10, 146, 153, 0, 0), (146, .aload_n 1, 147, 0, 0, 0), (147, .getfield 25, 150, 4, 1, 0), (150, .goto 5, 153, 155, 0, 0), (153, .bipush (-9), 155, 9, 1, 0), (155, .ireturn, 156, 0, 0, 0)]
theorem ok_L_read : am_okM 28 cd_L_read := by unfold am_okM; rw [am_m_28]; decide +kernel
/-- ThingsThrown$Troupe.begin()V -/
abbrev n_P_begin : Nat := 29
def cd_P_begin : List Am_E := [(0, .aload_n 0, 1, 0, 0, 0), (1, .iconst 0, 2, 0, 0, 0), (2, .putfield 9, 5, 6, 0, 0), (5, .return_, 6, 0, 0, 0)]
theorem ok_P_begin : am_okM 29 cd_P_begin := by unfold am_okM; rw [am_m_29]; decide +kernel
/-- ThingsThrown$Kinds.byLetter(I)I -/
abbrev n_K_byLetter : Nat := 30
def cd_K_byLetter : List Am_E := [(0, .iconst 0, 1, 0, 0, 0), (1, .istore_n 1, 2, 0, 0, 0), (2, .iload_n 1, 3, 0, 0, 0), (3, .bipush 6, 5, 6, 0, 0), (5, .if_icmp .ge 20, 8, 25, 0, 0), (8, .getstatic 11, 11, 0, 0, 0), (11, .iload_n 1, 12, 0, 0, 0), (12, .iaload, 13, 0, 0, 0), (13, .iload_n 0, 14, 0, 0, 0), (14, .if_icmp .ne 5, 17, 19, 0, 0), (17, .iload_n 1, 18, 0, 0, 0), (18, .ireturn, 19, 0, 0, 0), (19, .iinc 1 1, 22, 1, 0, 0), (22, .goto (-20), 25, 2, 0, 0), (25, .bipush (-9), 27, 9, 1, 0), (27, .ireturn, 28, 0, 0, 0)]
theorem ok_K_byLetter : am_okM 30 cd_K_byLetter := by unfold am_okM; rw [am_m_30]; decide +kernel
/-- ThingsThrown$Telling.isFreeFigure(I)Z -/
abbrev n_L_isFreeFigure : Nat := 31
def cd_L_isFreeFigure : List Am_E := [(0, .iload_n 1, 1, 0, 0, 0), (1, .bipush 48, 3, 48, 0, 0), (3, .isub, 4, 0, 0, 0), (4, .istore_n 2, 5, 0, 0, 0), (5, .iload_n 2, 6, 0, 0, 0), (6, .ifCond .lt 31, 9, 37, 0, 0), (9, .iload_n 2, 10, 0, 0, 0), (10, .bipush 9, 12, 9, 0, 0), (12, .if_icmp .gt 25, 15, 37, 0, 0), (15, .aload_n 0, 16, 0, 0, 0), (16, .getfield 12, 19, 5, 0, 0), (19, .aload_n 0, 20, 0, 0, 0), (20, .getfield 18, 23, 5, 1, 0), (23, .invokevirtual 53, 26, 32, 2, 6), (26, .iload_n 2, 27, 0, 0, 0), (27, .ishr, 28, 0, 0, 0), (28, .iconst 1, 29, 1, 0, 0), (29, .iand, 30, 0, 0, 0), (30, .ifCond .ne 7, 33, 37, 0, 0), (33, .iconst 1, 34, 1, 0, 0), (34, .goto 4, 37, 38, 0, 0), (37, .iconst 0, 38, 0, 0, 0), (38, .ireturn, 39, 0, 0, 0)]
theorem ok_L_isFreeFigure : am_okM 31 cd_L_isFreeFigure := by unfold am_okM; rw [am_m_31]; decide +kernel
/-- ThingsThrown$Troupe.sky(I)I -/
abbrev n_P_sky : Nat := 32
def cd_P_sky : List Am_E := [(0, .iconst 0, 1, 0, 0, 0), (1, .istore_n 2, 2, 0, 0, 0), (2, .iconst 0, 3, 0, 0, 0), (3, .istore_n 3, 4, 0, 0, 0), (4, .iload_n 3, 5, 0, 0, 0), (5, .aload_n 0, 6, 0, 0, 0), (6, .getfield 9, 9, 6, 0, 0), (9, .if_icmp .ge 19, 12, 28, 0, 0), (12, .iload_n 2, 13, 0, 0, 0), (13, .iconst 1, 14, 1, 0, 0), (14, .iload_n 1, 15, 0, 0, 0), (15, .iload_n 3, 16, 0, 0, 0), (16, .invokestatic 19, 19, 33, 2, 0), (19, .ishl, 20, 0, 0, 0), (20, .ior, 21, 0, 0, 0), (21, .istore_n 2, 22, 0, 0, 0), (22, .iinc 3 1, 25, 1, 0, 0), (25, .goto (-21), 28, 4, 0, 0), (28, .iload_n 2, 29, 0, 0, 0), (29, .ireturn, 30, 0, 0, 0)]
theorem ok_P_sky : am_okM 32 cd_P_sky := by unfold am_okM; rw [am_m_32]; decide +kernel
/-- ThingsThrown$Troupe.due(II)I -/
abbrev n_P_due : Nat := 33
def cd_P_due : List Am_E := [(0, .iload_n 0, 1, 0, 0, 0), (1, .iconst 4, 2, 4, 0, 0), (2, .iload_n 1, 3, 0, 0, 0), (3, .imul, 4, 0, 0, 0), (4, .iushr, 5, 0, 0, 0), (5, .bipush 15, 7, 15, 0, 0), (7, .iand, 8, 0, 0, 0), (8, .ireturn, 9, 0, 0, 0)]
theorem ok_P_due : am_okM 33 cd_P_due := by unfold am_okM; rw [am_m_33]; decide +kernel
/-- ThingsThrown$Troupe.with(III)I -/
abbrev n_P_with : Nat := 34
def cd_P_with : List Am_E := [(0, .iload_n 0, 1, 0, 0, 0), (1, .bipush 15, 3, 15, 0, 0), (3, .iconst 4, 4, 4, 0, 0), (4, .iload_n 1, 5, 0, 0, 0), (5, .imul, 6, 0, 0, 0), (6, .ishl, 7, 0, 0, 0), (7, .iconst (-1), 8, 1, 1, 0), (8, .ixor, 9, 0, 0, 0), (9, .iand, 10, 0, 0, 0), (10, .iload_n 2, 11, 0, 0, 0), (11, .iconst 4, 12, 4, 0, 0), (12, .iload_n 1, 13, 0, 0, 0), (13, .imul, 14, 0, 0, 0), (14, .ishl, 15, 0, 0, 0), (15, .ior, 16, 0, 0, 0), (16, .ireturn, 17, 0, 0, 0)]
theorem ok_P_with : am_okM 34 cd_P_with := by unfold am_okM; rw [am_m_34]; decide +kernel
/-- ThingsThrown$Troupe.add(I)V -/
abbrev n_P_add : Nat := 35
def cd_P_add : List Am_E := [(0, .aload_n 0, 1, 0, 0, 0), (1, .getfield 9, 4, 6, 0, 0), (4, .bipush 6, 6, 6, 0, 0), (6, .if_icmp .ge 23, 9, 29, 0, 0), (9, .aload_n 0, 10, 0, 0, 0), (10, .getfield 15, 13, 6, 1, 0), (13, .aload_n 0, 14, 0, 0, 0), (14, .getfield 9, 17, 6, 0, 0), (17, .iload_n 1, 18, 0, 0, 0), (18, .iastore, 19, 0, 0, 0), (19, .aload_n 0, 20, 0, 0, 0), (20, .dup, 21, 0, 0, 0), (21, .getfield 9, 24, 6, 0, 0), (24, .iconst 1, 25, 1, 0, 0), (25, .iadd, 26, 0, 0, 0), (26, .putfield 9, 29, 6, 0, 0), (29, .return_, 30, 0, 0, 0)]
theorem ok_P_add : am_okM 35 cd_P_add := by unfold am_okM; rw [am_m_35]; decide +kernel
/-- ThingsThrown.things(I)I -/
abbrev n_T_things : Nat := 36
def cd_T_things : List Am_E := [(0, .aload_n 0, 1, 0, 0, 0), (1, .iload_n 1, 2, 0, 0, 0), (2, .invokevirtual 128, 5, 26, 2, 0), (5, .istore_n 2, 6, 0, 0, 0), (6, .iload_n 2, 7, 0, 0, 0), (7, .ifCond .eq 5, 10, 12, 0, 0), (10, .iload_n 2, 11, 0, 0, 0), (11, .ireturn, 12, 0, 0, 0), (12, .aload_n 0, 13, 0, 0, 0), (13, .getfield 21, 16, 0, 2, 0), (16, .aload_n 0, 17, 0, 0, 0), (17, .getfield 15, 20, 0, 1, 0), (20, .iload_n 1, 21, 0, 0, 0), (21, .aaload, 22, 0, 0, 0), (22, .invokevirtual 134, 25, 28, 2, 5), (25, .bipush (-9), 27, 9, 1, 0), (27, .if_icmp .eq 6, 30, 33, 0, 0), (30, .bipush (-4), 32, 4, 1, 0), (32, .ireturn, 33, 0, 0, 0), (33, .aload_n 0, 34, 0, 0, 0), (34, .getfield 28, 37, 0, 3, 0), (37, .aload_n 0, 38, 0, 0, 0), (38, .getfield 21, 41, 0, 2, 0), (41, .getfield 138, 44, 5, 0, 0), (44, .invokevirtual 139, 47, 37, 2, 6), (47, .aload_n 0, 48, 0, 0, 0), (48, .getfield 35, 51, 0, 4, 0), (51, .aload_n 0, 52, 0, 0, 0), (52, .getfield 21, 55, 0, 2, 0), (55, .getfield 142, 58, 5, 1, 0), (58, .invokevirtual 145, 61, 38, 2, 2), (61, .iconst 0, 62, 0, 0, 0), (62, .istore_n 3, 63, 0, 0, 0), (63, .iload_n 3, 64, 0, 0, 0), (64, .iconst 3, 65, 3, 0, 0), (65, .if_icmp .ge 18, 68, 83, 0, 0), (68, .aload_n 0, 69, 0, 0, 0), (69, .getfield 39, 72, 0, 5, 0), (72, .iload_n 3, 73, 0, 0, 0), (73, .aaload, 74, 0, 0, 0), (74, .invokevirtual 80, 77, 7, 1, 2), (77, .iinc 3 1, 80, 1, 0, 0), (80, .goto (-17), 83, 63, 0, 0), (83, .aload_n 0, 84, 0, 0, 0), (84, .getfield 28, 87, 0, 3, 0), (87, .getfield 148, 90, 6, 0, 0), (90, .ireturn, 91, 0, 0, 0)]
theorem ok_T_things : am_okM 36 cd_T_things := by unfold am_okM; rw [am_m_36]; decide +kernel
/-- ThingsThrown$Troupe.takeFrom(LThingsThrown$Troupe;)V -/
abbrev n_P_takeFrom : Nat := 37
def cd_P_takeFrom : List Am_E := [(0, .aload_n 1, 1, 0, 0, 0), (1, .getfield 15, 4, 6, 1, 0), (4, .iconst 0, 5, 0, 0, 0), (5, .aload_n 0, 6, 0, 0, 0), (6, .getfield 15, 9, 6, 1, 0), (9, .iconst 0, 10, 0, 0, 0), (10, .bipush 6, 12, 6, 0, 0), (12, .invokestatic 27, 15, 9001, 0, 0), (15, .aload_n 0, 16, 0, 0, 0), (16, .aload_n 1, 17, 0, 0, 0), (17, .getfield 9, 20, 6, 0, 0), (20, .putfield 9, 23, 6, 0, 0), (23, .return_, 24, 0, 0, 0)]
theorem ok_P_takeFrom : am_okM 37 cd_P_takeFrom := by unfold am_okM; rw [am_m_37]; decide +kernel
/-- ThingsThrown$Evening.begin(I)V -/
abbrev n_E_begin : Nat := 38
def cd_E_begin : List Am_E := [(0, .aload_n 0, 1, 0, 0, 0), (1, .iload_n 1, 2, 0, 0, 0), (2, .putfield 9, 5, 2, 0, 0), (5, .aload_n 0, 6, 0, 0, 0), (6, .iconst 0, 7, 0, 0, 0), (7, .putfield 15, 10, 2, 1, 0), (10, .aload_n 0, 11, 0, 0, 0), (11, .iconst 0, 12, 0, 0, 0), (12, .putfield 18, 15, 2, 2, 0), (15, .iconst 0, 16, 0, 0, 0), (16, .istore_n 2, 17, 0, 0, 0), (17, .iload_n 2, 18, 0, 0, 0), (18, .bipush 6, 20, 6, 0, 0), (20, .if_icmp .ge 16, 23, 36, 0, 0), (23, .aload_n 0, 24, 0, 0, 0), (24, .getfield 21, 27, 2, 3, 0), (27, .iload_n 2, 28, 0, 0, 0), (28, .iconst 0, 29, 0, 0, 0), (29, .iastore, 30, 0, 0, 0), (30, .iinc 2 1, 33, 1, 0, 0), (33, .goto (-16), 36, 17, 0, 0), (36, .return_, 37, 0, 0, 0)]
theorem ok_E_begin : am_okM 38 cd_E_begin := by unfold am_okM; rw [am_m_38]; decide +kernel
/-- ThingsThrown.thing(II)I -/
abbrev n_T_thing : Nat := 39
def cd_T_thing : List Am_E := [(0, .aload_n 0, 1, 0, 0, 0), (1, .iload_n 1, 2, 0, 0, 0), (2, .invokevirtual 149, 5, 40, 2, 0), (5, .ifCond .eq 12, 8, 17, 0, 0), (8, .iload_n 2, 9, 0, 0, 0), (9, .ifCond .lt 8, 12, 17, 0, 0), (12, .iload_n 2, 13, 0, 0, 0), (13, .iconst 4, 14, 4, 0, 0), (14, .if_icmp .lt 5, 17, 19, 0, 0), (17, .iconst (-1), 18, 1, 1, 0), (18, .ireturn, 19, 0, 0, 0), (19, .aload_n 0, 20, 0, 0, 0), (20, .aload_n 0, 21, 0, 0, 0), (21, .iload_n 1, 22, 0, 0, 0), (22, .iload_n 2, 23, 0, 0, 0), (23, .invokevirtual 152, 26, 41, 3, 0), (26, .invokevirtual 102, 29, 17, 2, 0), (29, .ireturn, 30, 0, 0, 0)]
theorem ok_T_thing : am_okM 39 cd_T_thing := by unfold am_okM; rw [am_m_39]; decide +kernel
/-- ThingsThrown.isThing(I)Z -/
abbrev n_T_isThing : Nat := 40
def cd_T_isThing : List Am_E := [(0, .iload_n 1, 1, 0, 0, 0), (1, .ifCond .lt 18, 4, 19, 0, 0), (4, .iload_n 1, 5, 0, 0, 0), (5, .aload_n 0, 6, 0, 0, 0), (6, .getfield 28, 9, 0, 3, 0), (9, .getfield 148, 12, 6, 0, 0), (12, .if_icmp .ge 7, 15, 19, 0, 0), (15, .iconst 1, 16, 1, 0, 0), (16, .goto 4, 19, 20, 0, 0), (19, .iconst 0, 20, 0, 0, 0), (20, .ireturn, 21, 0, 0, 0)]
theorem ok_T_isThing : am_okM 40 cd_T_isThing := by unfold am_okM; rw [am_m_40]; decide +kernel
/-- ThingsThrown.ofThing(II)I -/
abbrev n_T_ofThing : Nat := 41
def cd_T_ofThing : List Am_E := [(0, .iload_n 2, 1, 0, 0, 0), (1, .tableswitch 62 0 2 #[27, 37, 49], 28, 0, 0, 0), (28, .aload_n 0, 29, 0, 0, 0), (29, .getfield 28, 32, 0, 3, 0), (32, .getfield 157, 35, 6, 1, 0), (35, .iload_n 1, 36, 0, 0, 0), (36, .iaload, 37, 0, 0, 0), (37, .ireturn, 38, 0, 0, 0), (38, .aload_n 0, 39, 0, 0, 0), (39, .getfield 35, 42, 0, 4, 0), (42, .getfield 166, 45, 2, 0, 0), (45, .iload_n 1, 46, 0, 0, 0), (46, .invokestatic 167, 49, 33, 2, 0), (49, .ireturn, 50, 0, 0, 0), (50, .aload_n 0, 51, 0, 0, 0), (51, .getfield 28, 54, 0, 3, 0), (54, .getfield 157, 57, 6, 1, 0), (57, .iload_n 1, 58, 0, 0, 0), (58, .iaload, 59, 0, 0, 0), (59, .invokestatic 336, 62, 42, 1, 0), (62, .ireturn, 63, 0, 0, 0), (63, .aload_n 0, 64, 0, 0, 0), (64, .getfield 35, 67, 0, 4, 0), (67, .getfield 339, 70, 2, 3, 0), (70, .iload_n 1, 71, 0, 0, 0), (71, .iaload, 72, 0, 0, 0), (72, .ireturn, 73, 0, 0, 0)]
theorem ok_T_ofThing : am_okM 41 cd_T_ofThing := by unfold am_okM; rw [am_m_41]; decide +kernel
/-- ThingsThrown$Kinds.heightsOf(I)I -/
abbrev n_K_heightsOf : Nat := 42
def cd_K_heightsOf : List Am_E := [(0, .iconst 2, 1, 2, 0, 0), (1, .getstatic 21, 4, 3, 0, 0), (4, .iload_n 0, 5, 0, 0, 0), (5, .iaload, 6, 0, 0, 0), (6, .ishl, 7, 0, 0, 0), (7, .iconst 1, 8, 1, 0, 0), (8, .getstatic 18, 11, 2, 0, 0), (11, .iload_n 0, 12, 0, 0, 0), (12, .iaload, 13, 0, 0, 0), (13, .ishl, 14, 0, 0, 0), (14, .isub, 15, 0, 0, 0), (15, .ireturn, 16, 0, 0, 0)]
theorem ok_K_heightsOf : am_okM 42 cd_K_heightsOf := by unfold am_okM; rw [am_m_42]; decide +kernel
/-- ThingsThrown.mark(II)I -/
abbrev n_T_mark : Nat := 43
def cd_T_mark : List Am_E := [(0, .aload_n 0, 1, 0, 0, 0), (1, .iload_n 1, 2, 0, 0, 0), (2, .invokevirtual 149, 5, 40, 2, 0), (5, .ifCond .eq 13, 8, 18, 0, 0), (8, .iload_n 2, 9, 0, 0, 0), (9, .ifCond .le 9, 12, 18, 0, 0), (12, .iload_n 2, 13, 0, 0, 0), (13, .bipush 6, 15, 6, 0, 0), (15, .if_icmp .lt 5, 18, 20, 0, 0), (18, .iconst (-1), 19, 1, 1, 0), (19, .ireturn, 20, 0, 0, 0), (20, .aload_n 0, 21, 0, 0, 0), (21, .getfield 28, 24, 0, 3, 0), (24, .getfield 157, 27, 6, 1, 0), (27, .iload_n 1, 28, 0, 0, 0), (28, .iaload, 29, 0, 0, 0), (29, .istore_n 3, 30, 0, 0, 0), (30, .iload_n 3, 31, 0, 0, 0), (31, .iload_n 2, 32, 0, 0, 0), (32, .invokestatic 160, 35, 44, 2, 0), (35, .ifCond .ne 9, 38, 44, 0, 0), (38, .aload_n 0, 39, 0, 0, 0), (39, .iconst 3, 40, 3, 0, 0), (40, .invokevirtual 87, 43, 10, 2, 0), (43, .ireturn, 44, 0, 0, 0), (44, .iload_n 2, 45, 0, 0, 0), (45, .tableswitch 71 1 4 #[31, 36, 50, 55], 76, 0, 0, 0), (76, .iload_n 3, 77, 0, 0, 0), (77, .invokestatic 163, 80, 45, 1, 0), (80, .ireturn, 81, 0, 0, 0), (81, .aload_n 0, 82, 0, 0, 0), (82, .getfield 35, 85, 0, 4, 0), (85, .getfield 166, 88, 2, 0, 0), (88, .iload_n 1, 89, 0, 0, 0), (89, .invokestatic 167, 92, 33, 2, 0), (92, .iconst 2, 93, 2, 0, 0), (93, .idiv, 94, 0, 0, 0), (94, .ireturn, 95, 0, 0, 0), (95, .iload_n 3, 96, 0, 0, 0), (96, .invokestatic 170, 99, 47, 1, 0), (99, .ireturn, 100, 0, 0, 0), (100, .aload_n 0, 101, 0, 0, 0), (101, .getfield 28, 104, 0, 3, 0), (104, .aload_n 0, 105, 0, 0, 0), (105, .getfield 35, 108, 0, 4, 0), (108, .getfield 166, 111, 2, 0, 0), (111, .iload_n 1, 112, 0, 0, 0), (112, .invokevirtual 173, 115, 48, 3, 6), (115, .ireturn, 116, 0, 0, 0), (116, .aload_n 0, 117, 0, 0, 0), (117, .getfield 28, 120, 0, 3, 0), (120, .aload_n 0, 121, 0, 0, 0), (121, .getfield 35, 124, 0, 4, 0), (124, .getfield 166, 127, 2, 0, 0), (127, .iload_n 1, 128, 0, 0, 0), (128, .invokevirtual 176, 131, 49, 3, 6), (131, .ireturn, 132, 0, 0, 0)]
theorem ok_T_mark : am_okM 43 cd_T_mark := by unfold am_okM; rw [am_m_43]; decide +kernel
/-- ThingsThrown$Kinds.isOf(II)Z -/
abbrev n_K_isOf : Nat := 44
def cd_K_isOf : List Am_E := [(0, .iload_n 0, 1, 0, 0, 0), (1, .iload_n 1, 2, 0, 0, 0), (2, .if_icmp .eq 16, 5, 18, 0, 0), (5, .getstatic 15, 8, 1, 0, 0), (8, .iload_n 0, 9, 0, 0, 0), (9, .iaload, 10, 0, 0, 0), (10, .iload_n 1, 11, 0, 0, 0), (11, .if_icmp .eq 7, 14, 18, 0, 0), (14, .iload_n 1, 15, 0, 0, 0), (15, .ifCond .ne 7, 18, 22, 0, 0), (18, .iconst 1, 19, 1, 0, 0), (19, .goto 4, 22, 23, 0, 0), (22, .iconst 0, 23, 0, 0, 0), (23, .ireturn, 24, 0, 0, 0)]
theorem ok_K_isOf : am_okM 44 cd_K_isOf := by unfold am_okM; rw [am_m_44]; decide +kernel
/-- ThingsThrown$Kinds.heightsLater(I)I -/
abbrev n_K_heightsLater : Nat := 45
def cd_K_heightsLater : List Am_E := [(0, .iconst 0, 1, 0, 0, 0), (1, .istore_n 1, 2, 0, 0, 0), (2, .getstatic 18, 5, 2, 0, 0), (5, .iload_n 0, 6, 0, 0, 0), (6, .iaload, 7, 0, 0, 0), (7, .istore_n 2, 8, 0, 0, 0), (8, .iload_n 2, 9, 0, 0, 0), (9, .getstatic 21, 12, 3, 0, 0), (12, .iload_n 0, 13, 0, 0, 0), (13, .iaload, 14, 0, 0, 0), (14, .if_icmp .gt 25, 17, 39, 0, 0), (17, .iload_n 0, 18, 0, 0, 0), (18, .iload_n 2, 19, 0, 0, 0), (19, .invokestatic 34, 22, 46, 2, 0), (22, .iconst 0, 23, 0, 0, 0), (23, .iload_n 2, 24, 0, 0, 0), (24, .invokestatic 34, 27, 46, 2, 0), (27, .if_icmp .le 6, 30, 33, 0, 0), (30, .iinc 1 1, 33, 1, 0, 0), (33, .iinc 2 1, 36, 1, 0, 0), (36, .goto (-28), 39, 8, 0, 0), (39, .iload_n 1, 40, 0, 0, 0), (40, .ireturn, 41, 0, 0, 0)]
theorem ok_K_heightsLater : am_okM 45 cd_K_heightsLater := by unfold am_okM; rw [am_m_45]; decide +kernel
/-- ThingsThrown$Kinds.flight(II)I -/
abbrev n_K_flight : Nat := 46
def cd_K_flight : List Am_E := [(0, .iload_n 1, 1, 0, 0, 0), (1, .getstatic 18, 4, 2, 0, 0), (4, .iload_n 0, 5, 0, 0, 0), (5, .iaload, 6, 0, 0, 0), (6, .if_icmp .lt 12, 9, 18, 0, 0), (9, .iload_n 1, 10, 0, 0, 0), (10, .getstatic 21, 13, 3, 0, 0), (13, .iload_n 0, 14, 0, 0, 0), (14, .iaload, 15, 0, 0, 0), (15, .if_icmp .le 6, 18, 21, 0, 0), (18, .bipush (-9), 20, 9, 1, 0), (20, .ireturn, 21, 0, 0, 0), (21, .iload_n 0, 22, 0, 0, 0), (22, .iconst 1, 23, 1, 0, 0), (23, .invokestatic 24, 26, 44, 2, 0), (26, .ifCond .eq 9, 29, 35, 0, 0), (29, .iload_n 1, 30, 0, 0, 0), (30, .iload_n 1, 31, 0, 0, 0), (31, .iconst 2, 32, 2, 0, 0), (32, .irem, 33, 0, 0, 0), (33, .iadd, 34, 0, 0, 0), (34, .ireturn, 35, 0, 0, 0), (35, .iload_n 0, 36, 0, 0, 0), (36, .iconst 3, 37, 3, 0, 0), (37, .invokestatic 24, 40, 44, 2, 0), (40, .ifCond .eq 11, 43, 51, 0, 0), (43, .iconst 1, 44, 1, 0, 0), (44, .iload_n 1, 45, 0, 0, 0), (45, .iconst 1, 46, 1, 0, 0), (46, .isub, 47, 0, 0, 0), (47, .invokestatic 28, 50, 9002, 0, 0), (50, .ireturn, 51, 0, 0, 0), (51, .iload_n 0, 52, 0, 0, 0), (52, .iconst 2, 53, 2, 0, 0), (53, .if_icmp .ne 9, 56, 62, 0, 0), (56, .iconst 2, 57, 2, 0, 0), (57, .iload_n 1, 58, 0, 0, 0), (58, .imul, 59, 0, 0, 0), (59, .goto 4, 62, 63, 0, 0), (62, .iload_n 1, 63, 0, 0, 0), (63, .ireturn, 64, 0, 0, 0)]
theorem ok_K_flight : am_okM 46 cd_K_flight := by unfold am_okM; rw [am_m_46]; decide +kernel
/-- ThingsThrown$Kinds.heightsSooner(I)I -/
abbrev n_K_heightsSooner : Nat := 47
def cd_K_heightsSooner : List Am_E := [(0, .iconst 0, 1, 0, 0, 0), (1, .istore_n 1, 2, 0, 0, 0), (2, .getstatic 18, 5, 2, 0, 0), (5, .iload_n 0, 6, 0, 0, 0), (6, .iaload, 7, 0, 0, 0), (7, .istore_n 2, 8, 0, 0, 0), (8, .iload_n 2, 9, 0, 0, 0), (9, .getstatic 21, 12, 3, 0, 0), (12, .iload_n 0, 13, 0, 0, 0), (13, .iaload, 14, 0, 0, 0), (14, .if_icmp .gt 25, 17, 39, 0, 0), (17, .iload_n 0, 18, 0, 0, 0), (18, .iload_n 2, 19, 0, 0, 0), (19, .invokestatic 34, 22, 46, 2, 0), (22, .iconst 0, 23, 0, 0, 0), (23, .iload_n 2, 24, 0, 0, 0), (24, .invokestatic 34, 27, 46, 2, 0), (27, .if_icmp .ge 6, 30, 33, 0, 0), (30, .iinc 1 1, 33, 1, 0, 0), (33, .iinc 2 1, 36, 1, 0, 0), (36, .goto (-28), 39, 8, 0, 0), (39, .iload_n 1, 40, 0, 0, 0), (40, .ireturn, 41, 0, 0, 0)]
theorem ok_K_heightsSooner : am_okM 47 cd_K_heightsSooner := by unfold am_okM; rw [am_m_47]; decide +kernel
/-- ThingsThrown$Troupe.torchesAhead(II)I -/
abbrev n_P_torchesAhead : Nat := 48
def cd_P_torchesAhead : List Am_E := [(0, .iconst 0, 1, 0, 0, 0), (1, .istore_n 3, 2, 0, 0, 0), (2, .iconst 0, 3, 0, 0, 0), (3, .istore 4, 5, 0, 0, 0), (5, .iload 4, 7, 0, 0, 0), (7, .aload_n 0, 8, 0, 0, 0), (8, .getfield 9, 11, 6, 0, 0), (11, .if_icmp .ge 37, 14, 48, 0, 0), (14, .aload_n 0, 15, 0, 0, 0), (15, .getfield 15, 18, 6, 1, 0), (18, .iload 4, 20, 0, 0, 0), (20, .iaload, 21, 0, 0, 0), (21, .iconst 4, 22, 4, 0, 0), (22, .if_icmp .ne 20, 25, 42, 0, 0), (25, .iload_n 1, 26, 0, 0, 0), (26, .iload 4, 28, 0, 0, 0), (28, .invokestatic 19, 31, 33, 2, 0), (31, .iload_n 1, 32, 0, 0, 0), (32, .iload_n 2, 33, 0, 0, 0), (33, .invokestatic 19, 36, 33, 2, 0), (36, .if_icmp .ge 6, 39, 42, 0, 0), (39, .iinc 3 1, 42, 1, 0, 0), (42, .iinc 4 1, 45, 1, 0, 0), (45, .goto (-40), 48, 5, 0, 0), (48, .iload_n 3, 49, 0, 0, 0), (49, .ireturn, 50, 0, 0, 0)]
theorem ok_P_torchesAhead : am_okM 48 cd_P_torchesAhead := by unfold am_okM; rw [am_m_48]; decide +kernel
/-- ThingsThrown$Troupe.thingsBehind(II)I -/
abbrev n_P_thingsBehind : Nat := 49
def cd_P_thingsBehind : List Am_E := [(0, .iconst 0, 1, 0, 0, 0), (1, .istore_n 3, 2, 0, 0, 0), (2, .iconst 0, 3, 0, 0, 0), (3, .istore 4, 5, 0, 0, 0), (5, .iload 4, 7, 0, 0, 0), (7, .aload_n 0, 8, 0, 0, 0), (8, .getfield 9, 11, 6, 0, 0), (11, .if_icmp .ge 26, 14, 37, 0, 0), (14, .iload_n 1, 15, 0, 0, 0), (15, .iload 4, 17, 0, 0, 0), (17, .invokestatic 19, 20, 33, 2, 0), (20, .iload_n 1, 21, 0, 0, 0), (21, .iload_n 2, 22, 0, 0, 0), (22, .invokestatic 19, 25, 33, 2, 0), (25, .if_icmp .le 6, 28, 31, 0, 0), (28, .iinc 3 1, 31, 1, 0, 0), (31, .iinc 4 1, 34, 1, 0, 0), (34, .goto (-29), 37, 5, 0, 0), (37, .iload_n 3, 38, 0, 0, 0), (38, .ireturn, 39, 0, 0, 0)]
theorem ok_P_thingsBehind : am_okM 49 cd_P_thingsBehind := by unfold am_okM; rw [am_m_49]; decide +kernel
/-- ThingsThrown.toss(I)I -/
abbrev n_T_toss : Nat := 50
def cd_T_toss : List Am_E := [(0, .iload_n 1, 1, 0, 0, 0), (1, .invokestatic 179, 4, 51, 1, 0), (4, .ifCond .ne 5, 7, 9, 0, 0), (7, .iconst (-1), 8, 1, 1, 0), (8, .ireturn, 9, 0, 0, 0), (9, .aload_n 0, 10, 0, 0, 0), (10, .getfield 28, 13, 0, 3, 0), (13, .aload_n 0, 14, 0, 0, 0), (14, .getfield 35, 17, 0, 4, 0), (17, .getfield 166, 20, 2, 0, 0), (20, .iload_n 1, 21, 0, 0, 0), (21, .invokevirtual 182, 24, 52, 3, 6), (24, .ifCond .ne 6, 27, 30, 0, 0), (27, .bipush (-4), 29, 4, 1, 0), (29, .ireturn, 30, 0, 0, 0), (30, .aload_n 0, 31, 0, 0, 0), (31, .getfield 35, 34, 0, 4, 0), (34, .invokevirtual 185, 37, 55, 1, 2), (37, .ifCond .eq 6, 40, 43, 0, 0), (40, .bipush (-2), 42, 2, 1, 0), (42, .ireturn, 43, 0, 0, 0), (43, .aload_n 0, 44, 0, 0, 0), (44, .iload_n 1, 45, 0, 0, 0), (45, .invokevirtual 188, 48, 56, 2, 0), (48, .aload_n 0, 49, 0, 0, 0), (49, .invokevirtual 191, 52, 61, 1, 0), (52, .ireturn, 53, 0, 0, 0)]
theorem ok_T_toss : am_okM 50 cd_T_toss := by unfold am_okM; rw [am_m_50]; decide +kernel
/-- ThingsThrown.isHeight(I)Z -/
abbrev n_T_isHeight : Nat := 51
def cd_T_isHeight : List Am_E := [(0, .iload_n 0, 1, 0, 0, 0), (1, .iconst 1, 2, 1, 0, 0), (2, .if_icmp .lt 13, 5, 15, 0, 0), (5, .iload_n 0, 6, 0, 0, 0), (6, .bipush 7, 8, 7, 0, 0), (8, .if_icmp .gt 7, 11, 15, 0, 0), (11, .iconst 1, 12, 1, 0, 0), (12, .goto 4, 15, 16, 0, 0), (15, .iconst 0, 16, 0, 0, 0), (16, .ireturn, 17, 0, 0, 0)]
theorem ok_T_isHeight : am_okM 51 cd_T_isHeight := by unfold am_okM; rw [am_m_51]; decide +kernel
/-- ThingsThrown$Troupe.mayGo(II)Z -/
abbrev n_P_mayGo : Nat := 52
def cd_P_mayGo : List Am_E := [(0, .aload_n 0, 1, 0, 0, 0), (1, .iload_n 1, 2, 0, 0, 0), (2, .invokevirtual 52, 5, 53, 2, 6), (5, .istore_n 3, 6, 0, 0, 0), (6, .iload_n 3, 7, 0, 0, 0), (7, .bipush (-9), 9, 9, 1, 0), (9, .if_icmp .eq 28, 12, 37, 0, 0), (12, .aload_n 0, 13, 0, 0, 0), (13, .iload_n 1, 14, 0, 0, 0), (14, .invokevirtual 55, 17, 32, 2, 6), (17, .aload_n 0, 18, 0, 0, 0), (18, .getfield 15, 21, 6, 1, 0), (21, .iload_n 3, 22, 0, 0, 0), (22, .iaload, 23, 0, 0, 0), (23, .iload_n 2, 24, 0, 0, 0), (24, .invokestatic 58, 27, 46, 2, 0), (27, .invokestatic 61, 30, 54, 2, 0), (30, .ifCond .eq 7, 33, 37, 0, 0), (33, .iconst 1, 34, 1, 0, 0), (34, .goto 4, 37, 38, 0, 0), (37, .iconst 0, 38, 0, 0, 0), (38, .ireturn, 39, 0, 0, 0)]
theorem ok_P_mayGo : am_okM 52 cd_P_mayGo := by unfold am_okM; rw [am_m_52]; decide +kernel
/-- ThingsThrown$Troupe.dueNow(I)I -/
abbrev n_P_dueNow : Nat := 53
def cd_P_dueNow : List Am_E := [(0, .iconst 0, 1, 0, 0, 0), (1, .istore_n 2, 2, 0, 0, 0), (2, .iload_n 2, 3, 0, 0, 0), (3, .aload_n 0, 4, 0, 0, 0), (4, .getfield 9, 7, 6, 0, 0), (7, .if_icmp .ge 19, 10, 26, 0, 0), (10, .iload_n 1, 11, 0, 0, 0), (11, .iload_n 2, 12, 0, 0, 0), (12, .invokestatic 19, 15, 33, 2, 0), (15, .ifCond .ne 5, 18, 20, 0, 0), (18, .iload_n 2, 19, 0, 0, 0), (19, .ireturn, 20, 0, 0, 0), (20, .iinc 2 1, 23, 1, 0, 0), (23, .goto (-21), 26, 2, 0, 0), (26, .bipush (-9), 28, 9, 1, 0), (28, .ireturn, 29, 0, 0, 0)]
theorem ok_P_dueNow : am_okM 53 cd_P_dueNow := by unfold am_okM; rw [am_m_53]; decide +kernel
/-- ThingsThrown$Troupe.isFree(II)Z -/
abbrev n_P_isFree : Nat := 54
def cd_P_isFree : List Am_E := [(0, .iload_n 1, 1, 0, 0, 0), (1, .bipush (-9), 3, 9, 1, 0), (3, .if_icmp .eq 15, 6, 18, 0, 0), (6, .iload_n 0, 7, 0, 0, 0), (7, .iload_n 1, 8, 0, 0, 0), (8, .ishr, 9, 0, 0, 0), (9, .iconst 1, 10, 1, 0, 0), (10, .iand, 11, 0, 0, 0), (11, .ifCond .ne 7, 14, 18, 0, 0), (14, .iconst 1, 15, 1, 0, 0), (15, .goto 4, 18, 19, 0, 0), (18, .iconst 0, 19, 0, 0, 0), (19, .ireturn, 20, 0, 0, 0)]
theorem ok_P_isFree : am_okM 54 cd_P_isFree := by unfold am_okM; rw [am_m_54]; decide +kernel
/-- ThingsThrown$Evening.isFull()Z -/
abbrev n_E_isFull : Nat := 55
def cd_E_isFull : List Am_E := [(0, .aload_n 0, 1, 0, 0, 0), (1, .getfield 18, 4, 2, 2, 0), (4, .bipush 40, 6, 40, 0, 0), (6, .if_icmp .lt 7, 9, 13, 0, 0), (9, .iconst 1, 10, 1, 0, 0), (10, .goto 4, 13, 14, 0, 0), (13, .iconst 0, 14, 0, 0, 0), (14, .ireturn, 15, 0, 0, 0)]
theorem ok_E_isFull : am_okM 55 cd_E_isFull := by unfold am_okM; rw [am_m_55]; decide +kernel
/-- ThingsThrown.enterThrow(I)V -/
abbrev n_T_enterThrow : Nat := 56
def cd_T_enterThrow : List Am_E := [(0, .aload_n 0, 1, 0, 0, 0), (1, .getfield 28, 4, 0, 3, 0), (4, .aload_n 0, 5, 0, 0, 0), (5, .getfield 35, 8, 0, 4, 0), (8, .getfield 166, 11, 2, 0, 0), (11, .invokevirtual 195, 14, 53, 2, 6), (14, .istore_n 2, 15, 0, 0, 0), (15, .aload_n 0, 16, 0, 0, 0), (16, .getfield 35, 19, 0, 4, 0), (19, .aload_n 0, 20, 0, 0, 0), (20, .getfield 28, 23, 0, 3, 0), (23, .aload_n 0, 24, 0, 0, 0), (24, .getfield 35, 27, 0, 4, 0), (27, .getfield 166, 30, 2, 0, 0), (30, .iload_n 1, 31, 0, 0, 0), (31, .invokevirtual 342, 34, 57, 3, 6), (34, .iload_n 2, 35, 0, 0, 0), (35, .iconst 1, 36, 1, 0, 0), (36, .invokevirtual 345, 39, 59, 4, 2), (39, .return_, 40, 0, 0, 0)]
theorem ok_T_enterThrow : am_okM 56 cd_T_enterThrow := by unfold am_okM; rw [am_m_56]; decide +kernel
/-- ThingsThrown$Troupe.thrown(II)I -/
abbrev n_P_thrown : Nat := 57
def cd_P_thrown : List Am_E := [(0, .aload_n 0, 1, 0, 0, 0), (1, .iload_n 1, 2, 0, 0, 0), (2, .invokevirtual 52, 5, 53, 2, 6), (5, .istore_n 3, 6, 0, 0, 0), (6, .iload_n 3, 7, 0, 0, 0), (7, .bipush (-9), 9, 9, 1, 0), (9, .if_icmp .ne 7, 12, 16, 0, 0), (12, .iload_n 1, 13, 0, 0, 0), (13, .goto 23, 16, 36, 0, 0), (16, .aload_n 0, 17, 0, 0, 0), (17, .iload_n 1, 18, 0, 0, 0), (18, .iload_n 3, 19, 0, 0, 0), (19, .aload_n 0, 20, 0, 0, 0), (20, .getfield 15, 23, 6, 1, 0), (23, .iload_n 3, 24, 0, 0, 0), (24, .iaload, 25, 0, 0, 0), (25, .iload_n 2, 26, 0, 0, 0), (26, .invokestatic 58, 29, 46, 2, 0), (29, .invokestatic 23, 32, 34, 3, 0), (32, .iconst 1, 33, 1, 0, 0), (33, .invokevirtual 49, 36, 58, 3, 6), (36, .ireturn, 37, 0, 0, 0)]
theorem ok_P_thrown : am_okM 57 cd_P_thrown := by unfold am_okM; rw [am_m_57]; decide +kernel
/-- ThingsThrown$Troupe.later(II)I -/
abbrev n_P_later : Nat := 58
def cd_P_later : List Am_E := [(0, .iload_n 1, 1, 0, 0, 0), (1, .iload_n 2, 2, 0, 0, 0), (2, .ldc 44, 4, 1118481, 0, 0), (4, .iconst 1, 5, 1, 0, 0), (5, .iconst 4, 6, 4, 0, 0), (6, .aload_n 0, 7, 0, 0, 0), (7, .getfield 9, 10, 6, 0, 0), (10, .imul, 11, 0, 0, 0), (11, .ishl, 12, 0, 0, 0), (12, .iconst 1, 13, 1, 0, 0), (13, .isub, 14, 0, 0, 0), (14, .iand, 15, 0, 0, 0), (15, .imul, 16, 0, 0, 0), (16, .isub, 17, 0, 0, 0), (17, .ireturn, 18, 0, 0, 0)]
theorem ok_P_later : am_okM 58 cd_P_later := by unfold am_okM; rw [am_m_58]; decide +kernel
/-- ThingsThrown$Evening.enter(III)V -/
abbrev n_E_enter : Nat := 59
def cd_E_enter : List Am_E := [(0, .aload_n 0, 1, 0, 0, 0), (1, .invokevirtual 34, 4, 60, 1, 2), (4, .ifCond .ne 10, 7, 14, 0, 0), (7, .aload_n 0, 8, 0, 0, 0), (8, .invokevirtual 38, 11, 55, 1, 2), (11, .ifCond .eq 4, 14, 15, 0, 0), (14, .return_, 15, 0, 0, 0), (15, .aload_n 0, 16, 0, 0, 0), (16, .getfield 25, 19, 2, 4, 0), (19, .aload_n 0, 20, 0, 0, 0), (20, .getfield 18, 23, 2, 2, 0), (23, .aload_n 0, 24, 0, 0, 0), (24, .getfield 9, 27, 2, 0, 0), (27, .iastore, 28, 0, 0, 0), (28, .aload_n 0, 29, 0, 0, 0), (29, .getfield 28, 32, 2, 5, 0), (32, .aload_n 0, 33, 0, 0, 0), (33, .getfield 18, 36, 2, 2, 0), (36, .iload_n 2, 37, 0, 0, 0), (37, .iastore, 38, 0, 0, 0), (38, .aload_n 0, 39, 0, 0, 0), (39, .getfield 31, 42, 2, 6, 0), (42, .aload_n 0, 43, 0, 0, 0), (43, .getfield 18, 46, 2, 2, 0), (46, .iload_n 3, 47, 0, 0, 0), (47, .iastore, 48, 0, 0, 0), (48, .aload_n 0, 49, 0, 0, 0), (49, .dup, 50, 0, 0, 0), (50, .getfield 18, 53, 2, 2, 0), (53, .iconst 1, 54, 1, 0, 0), (54, .iadd, 55, 0, 0, 0), (55, .putfield 18, 58, 2, 2, 0), (58, .aload_n 0, 59, 0, 0, 0), (59, .iload_n 1, 60, 0, 0, 0), (60, .putfield 9, 63, 2, 0, 0), (63, .aload_n 0, 64, 0, 0, 0), (64, .dup, 65, 0, 0, 0), (65, .getfield 15, 68, 2, 1, 0), (68, .iload_n 3, 69, 0, 0, 0), (69, .iadd, 70, 0, 0, 0), (70, .putfield 15, 73, 2, 1, 0), (73, .iload_n 2, 74, 0, 0, 0), (74, .bipush (-9), 76, 9, 1, 0), (76, .if_icmp .eq 13, 79, 89, 0, 0), (79, .aload_n 0, 80, 0, 0, 0), (80, .getfield 21, 83, 2, 3, 0), (83, .iload_n 2, 84, 0, 0, 0), (84, .dup2, 85, 0, 0, 0), (85, .iaload, 86, 0, 0, 0), (86, .iconst 1, 87, 1, 0, 0), (87, .iadd, 88, 0, 0, 0), (88, .iastore, 89, 0, 0, 0), (89, .return_, 90, 0, 0, 0)]
theorem ok_E_enter : am_okM 59 cd_E_enter := by unfold am_okM; rw [am_m_59]; decide +kernel
/-- ThingsThrown$Evening.isForgotten()Z -/
abbrev n_E_isForgotten : Nat := 60
def cd_E_isForgotten : List Am_E := [(0, .aload_n 0, 1, 0, 0, 0), (1, .getfield 18, 4, 2, 2, 0), (4, .ifCond .ge 7, 7, 11, 0, 0), (7, .iconst 1, 8, 1, 0, 0), (8, .goto 4, 11, 12, 0, 0), (11, .iconst 0, 12, 0, 0, 0), (12, .ireturn, 13, 0, 0, 0)]
theorem ok_E_isForgotten : am_okM 60 cd_E_isForgotten := by unfold am_okM; rw [am_m_60]; decide +kernel
/-- ThingsThrown.skyNow()I -/
abbrev n_T_skyNow : Nat := 61
def cd_T_skyNow : List Am_E := [(0, .aload_n 0, 1, 0, 0, 0), (1, .getfield 28, 4, 0, 3, 0), (4, .aload_n 0, 5, 0, 0, 0), (5, .getfield 35, 8, 0, 4, 0), (8, .getfield 166, 11, 2, 0, 0), (11, .invokevirtual 236, 14, 32, 2, 6), (14, .ireturn, 15, 0, 0, 0)]
theorem ok_T_skyNow : am_okM 61 cd_T_skyNow := by unfold am_okM; rw [am_m_61]; decide +kernel
/-- ThingsThrown.rest()I -/
abbrev n_T_rest : Nat := 62
def cd_T_rest : List Am_E := [(0, .aload_n 0, 1, 0, 0, 0), (1, .getfield 28, 4, 0, 3, 0), (4, .getfield 148, 7, 6, 0, 0), (7, .ifCond .eq 22, 10, 29, 0, 0), (10, .aload_n 0, 11, 0, 0, 0), (11, .getfield 28, 14, 0, 3, 0), (14, .aload_n 0, 15, 0, 0, 0), (15, .getfield 35, 18, 0, 4, 0), (18, .getfield 166, 21, 2, 0, 0), (21, .invokevirtual 195, 24, 53, 2, 6), (24, .bipush (-9), 26, 9, 1, 0), (26, .if_icmp .eq 6, 29, 32, 0, 0), (29, .bipush (-4), 31, 4, 1, 0), (31, .ireturn, 32, 0, 0, 0), (32, .aload_n 0, 33, 0, 0, 0), (33, .getfield 35, 36, 0, 4, 0), (36, .invokevirtual 185, 39, 55, 1, 2), (39, .ifCond .eq 6, 42, 45, 0, 0), (42, .bipush (-2), 44, 2, 1, 0), (44, .ireturn, 45, 0, 0, 0), (45, .aload_n 0, 46, 0, 0, 0), (46, .invokevirtual 198, 49, 63, 1, 0), (49, .aload_n 0, 50, 0, 0, 0), (50, .invokevirtual 191, 53, 61, 1, 0), (53, .ireturn, 54, 0, 0, 0)]
theorem ok_T_rest : am_okM 62 cd_T_rest := by unfold am_okM; rw [am_m_62]; decide +kernel
/-- ThingsThrown.enterRest()V -/
abbrev n_T_enterRest : Nat := 63
def cd_T_enterRest : List Am_E := [(0, .aload_n 0, 1, 0, 0, 0), (1, .getfield 35, 4, 0, 4, 0), (4, .aload_n 0, 5, 0, 0, 0), (5, .getfield 28, 8, 0, 3, 0), (8, .aload_n 0, 9, 0, 0, 0), (9, .getfield 35, 12, 0, 4, 0), (12, .getfield 166, 15, 2, 0, 0), (15, .iconst 1, 16, 1, 0, 0), (16, .invokevirtual 349, 19, 58, 3, 6), (19, .bipush (-9), 21, 9, 1, 0), (21, .iconst 1, 22, 1, 0, 0), (22, .invokevirtual 345, 25, 59, 4, 2), (25, .return_, 26, 0, 0, 0)]
theorem ok_T_enterRest : am_okM 63 cd_T_enterRest := by unfold am_okM; rw [am_m_63]; decide +kernel
/-- ThingsThrown.exchange(II)I -/
abbrev n_T_exchange : Nat := 64
def cd_T_exchange : List Am_E := [(0, .aload_n 0, 1, 0, 0, 0), (1, .iload_n 1, 2, 0, 0, 0), (2, .invokevirtual 149, 5, 40, 2, 0), (5, .ifCond .eq 16, 8, 21, 0, 0), (8, .aload_n 0, 9, 0, 0, 0), (9, .iload_n 2, 10, 0, 0, 0), (10, .invokevirtual 149, 13, 40, 2, 0), (13, .ifCond .eq 8, 16, 21, 0, 0), (16, .iload_n 1, 17, 0, 0, 0), (17, .iload_n 2, 18, 0, 0, 0), (18, .if_icmp .ne 5, 21, 23, 0, 0), (21, .iconst (-1), 22, 1, 1, 0), (22, .ireturn, 23, 0, 0, 0), (23, .aload_n 0, 24, 0, 0, 0), (24, .getfield 35, 27, 0, 4, 0), (27, .invokevirtual 185, 30, 55, 1, 2), (30, .ifCond .eq 6, 33, 36, 0, 0), (33, .bipush (-2), 35, 2, 1, 0), (35, .ireturn, 36, 0, 0, 0), (36, .aload_n 0, 37, 0, 0, 0), (37, .iload_n 1, 38, 0, 0, 0), (38, .iload_n 2, 39, 0, 0, 0), (39, .invokevirtual 201, 42, 65, 3, 0), (42, .aload_n 0, 43, 0, 0, 0), (43, .invokevirtual 191, 46, 61, 1, 0), (46, .ireturn, 47, 0, 0, 0)]
theorem ok_T_exchange : am_okM 64 cd_T_exchange := by unfold am_okM; rw [am_m_64]; decide +kernel
/-- ThingsThrown.enterExchange(II)V -/
abbrev n_T_enterExchange : Nat := 65
def cd_T_enterExchange : List Am_E := [(0, .aload_n 0, 1, 0, 0, 0), (1, .getfield 35, 4, 0, 4, 0), (4, .aload_n 0, 5, 0, 0, 0), (5, .getfield 35, 8, 0, 4, 0), (8, .getfield 166, 11, 2, 0, 0), (11, .iload_n 1, 12, 0, 0, 0), (12, .iload_n 2, 13, 0, 0, 0), (13, .invokestatic 352, 16, 66, 3, 0), (16, .bipush (-9), 18, 9, 1, 0), (18, .iconst 0, 19, 0, 0, 0), (19, .invokevirtual 345, 22, 59, 4, 2), (22, .return_, 23, 0, 0, 0)]
theorem ok_T_enterExchange : am_okM 65 cd_T_enterExchange := by unfold am_okM; rw [am_m_65]; decide +kernel
/-- ThingsThrown$Troupe.exchanged(III)I -/
abbrev n_P_exchanged : Nat := 66
def cd_P_exchanged : List Am_E := [(0, .iload_n 0, 1, 0, 0, 0), (1, .iload_n 1, 2, 0, 0, 0), (2, .iload_n 0, 3, 0, 0, 0), (3, .iload_n 2, 4, 0, 0, 0), (4, .invokestatic 19, 7, 33, 2, 0), (7, .invokestatic 23, 10, 34, 3, 0), (10, .iload_n 2, 11, 0, 0, 0), (11, .iload_n 0, 12, 0, 0, 0), (12, .iload_n 1, 13, 0, 0, 0), (13, .invokestatic 19, 16, 33, 2, 0), (16, .invokestatic 23, 19, 34, 3, 0), (19, .ireturn, 20, 0, 0, 0)]
theorem ok_P_exchanged : am_okM 66 cd_P_exchanged := by unfold am_okM; rw [am_m_66]; decide +kernel
/-- ThingsThrown.undo(I)I -/
abbrev n_T_undo : Nat := 67
def cd_T_undo : List Am_E := [(0, .iload_n 1, 1, 0, 0, 0), (1, .ifCond .lt 14, 4, 15, 0, 0), (4, .iload_n 1, 5, 0, 0, 0), (5, .aload_n 0, 6, 0, 0, 0), (6, .getfield 35, 9, 0, 4, 0), (9, .getfield 204, 12, 2, 2, 0), (12, .if_icmp .le 5, 15, 17, 0, 0), (15, .iconst (-1), 16, 1, 1, 0), (16, .ireturn, 17, 0, 0, 0), (17, .aload_n 0, 18, 0, 0, 0), (18, .getfield 35, 21, 0, 4, 0), (21, .getfield 204, 24, 2, 2, 0), (24, .iload_n 1, 25, 0, 0, 0), (25, .isub, 26, 0, 0, 0), (26, .istore_n 2, 27, 0, 0, 0), (27, .aload_n 0, 28, 0, 0, 0), (28, .getfield 35, 31, 0, 4, 0), (31, .iload_n 1, 32, 0, 0, 0), (32, .invokevirtual 207, 35, 68, 2, 2), (35, .iload_n 2, 36, 0, 0, 0), (36, .ireturn, 37, 0, 0, 0)]
theorem ok_T_undo : am_okM 67 cd_T_undo := by unfold am_okM; rw [am_m_67]; decide +kernel
/-- ThingsThrown$Evening.takeBack(I)V -/
abbrev n_E_takeBack : Nat := 68
def cd_E_takeBack : List Am_E := [(0, .aload_n 0, 1, 0, 0, 0), (1, .getfield 18, 4, 2, 2, 0), (4, .iconst 1, 5, 1, 0, 0), (5, .isub, 6, 0, 0, 0), (6, .istore_n 2, 7, 0, 0, 0), (7, .iload_n 2, 8, 0, 0, 0), (8, .iload_n 1, 9, 0, 0, 0), (9, .if_icmp .lt 69, 12, 78, 0, 0), (12, .iload_n 2, 13, 0, 0, 0), (13, .ifCond .lt 65, 16, 78, 0, 0), (16, .aload_n 0, 17, 0, 0, 0), (17, .aload_n 0, 18, 0, 0, 0), (18, .getfield 25, 21, 2, 4, 0), (21, .iload_n 2, 22, 0, 0, 0), (22, .iaload, 23, 0, 0, 0), (23, .putfield 9, 26, 2, 0, 0), (26, .aload_n 0, 27, 0, 0, 0), (27, .dup, 28, 0, 0, 0), (28, .getfield 15, 31, 2, 1, 0), (31, .aload_n 0, 32, 0, 0, 0), (32, .getfield 31, 35, 2, 6, 0), (35, .iload_n 2, 36, 0, 0, 0), (36, .iaload, 37, 0, 0, 0), (37, .isub, 38, 0, 0, 0), (38, .putfield 15, 41, 2, 1, 0), (41, .aload_n 0, 42, 0, 0, 0), (42, .getfield 28, 45, 2, 5, 0), (45, .iload_n 2, 46, 0, 0, 0), (46, .iaload, 47, 0, 0, 0), (47, .bipush (-9), 49, 9, 1, 0), (49, .if_icmp .eq 18, 52, 67, 0, 0), (52, .aload_n 0, 53, 0, 0, 0), (53, .getfield 21, 56, 2, 3, 0), (56, .aload_n 0, 57, 0, 0, 0), (57, .getfield 28, 60, 2, 5, 0), (60, .iload_n 2, 61, 0, 0, 0), (61, .iaload, 62, 0, 0, 0), (62, .dup2, 63, 0, 0, 0), (63, .iaload, 64, 0, 0, 0), (64, .iconst 1, 65, 1, 0, 0), (65, .isub, 66, 0, 0, 0), (66, .iastore, 67, 0, 0, 0), (67, .aload_n 0, 68, 0, 0, 0), (68, .iload_n 2, 69, 0, 0, 0), (69, .putfield 18, 72, 2, 2, 0), (72, .iinc 2 (-1), 75, 1, 1, 0), (75, .goto (-68), 78, 7, 0, 0), (78, .return_, 79, 0, 0, 0)]
theorem ok_E_takeBack : am_okM 68 cd_E_takeBack := by unfold am_okM; rw [am_m_68]; decide +kernel
/-- ThingsThrown.keep(I)I -/
abbrev n_T_keep : Nat := 69
def cd_T_keep : List Am_E := [(0, .iload_n 1, 1, 0, 0, 0), (1, .invokestatic 210, 4, 70, 1, 0), (4, .ifCond .ne 5, 7, 9, 0, 0), (7, .iconst (-1), 8, 1, 1, 0), (8, .ireturn, 9, 0, 0, 0), (9, .aload_n 0, 10, 0, 0, 0), (10, .getfield 28, 13, 0, 3, 0), (13, .getfield 148, 16, 6, 0, 0), (16, .ifCond .ne 6, 19, 22, 0, 0), (19, .bipush (-4), 21, 4, 1, 0), (21, .ireturn, 22, 0, 0, 0), (22, .aload_n 0, 23, 0, 0, 0), (23, .getfield 39, 26, 0, 5, 0), (26, .iload_n 1, 27, 0, 0, 0), (27, .aaload, 28, 0, 0, 0), (28, .aload_n 0, 29, 0, 0, 0), (29, .getfield 35, 32, 0, 4, 0), (32, .invokevirtual 213, 35, 71, 2, 2), (35, .aload_n 0, 36, 0, 0, 0), (36, .getfield 35, 39, 0, 4, 0), (39, .getfield 204, 42, 2, 2, 0), (42, .ireturn, 43, 0, 0, 0)]
theorem ok_T_keep : am_okM 69 cd_T_keep := by unfold am_okM; rw [am_m_69]; decide +kernel
/-- ThingsThrown.isPlaceKept(I)Z -/
abbrev n_T_isPlaceKept : Nat := 70
def cd_T_isPlaceKept : List Am_E := [(0, .iload_n 0, 1, 0, 0, 0), (1, .ifCond .lt 12, 4, 13, 0, 0), (4, .iload_n 0, 5, 0, 0, 0), (5, .iconst 3, 6, 3, 0, 0), (6, .if_icmp .ge 7, 9, 13, 0, 0), (9, .iconst 1, 10, 1, 0, 0), (10, .goto 4, 13, 14, 0, 0), (13, .iconst 0, 14, 0, 0, 0), (14, .ireturn, 15, 0, 0, 0)]
theorem ok_T_isPlaceKept : am_okM 70 cd_T_isPlaceKept := by unfold am_okM; rw [am_m_70]; decide +kernel
/-- ThingsThrown$Evening.takeFrom(LThingsThrown$Evening;)V -/
abbrev n_E_takeFrom : Nat := 71
def cd_E_takeFrom : List Am_E := [(0, .aload_n 0, 1, 0, 0, 0), (1, .aload_n 1, 2, 0, 0, 0), (2, .getfield 9, 5, 2, 0, 0), (5, .putfield 9, 8, 2, 0, 0), (8, .aload_n 0, 9, 0, 0, 0), (9, .aload_n 1, 10, 0, 0, 0), (10, .getfield 15, 13, 2, 1, 0), (13, .putfield 15, 16, 2, 1, 0), (16, .aload_n 0, 17, 0, 0, 0), (17, .aload_n 1, 18, 0, 0, 0), (18, .getfield 18, 21, 2, 2, 0), (21, .putfield 18, 24, 2, 2, 0), (24, .aload_n 1, 25, 0, 0, 0), (25, .getfield 21, 28, 2, 3, 0), (28, .iconst 0, 29, 0, 0, 0), (29, .aload_n 0, 30, 0, 0, 0), (30, .getfield 21, 33, 2, 3, 0), (33, .iconst 0, 34, 0, 0, 0), (34, .bipush 6, 36, 6, 0, 0), (36, .invokestatic 41, 39, 9001, 0, 0), (39, .aload_n 1, 40, 0, 0, 0), (40, .getfield 25, 43, 2, 4, 0), (43, .iconst 0, 44, 0, 0, 0), (44, .aload_n 0, 45, 0, 0, 0), (45, .getfield 25, 48, 2, 4, 0), (48, .iconst 0, 49, 0, 0, 0), (49, .bipush 40, 51, 40, 0, 0), (51, .invokestatic 41, 54, 9001, 0, 0), (54, .aload_n 1, 55, 0, 0, 0), (55, .getfield 28, 58, 2, 5, 0), (58, .iconst 0, 59, 0, 0, 0), (59, .aload_n 0, 60, 0, 0, 0), (60, .getfield 28, 63, 2, 5, 0), (63, .iconst 0, 64, 0, 0, 0), (64, .bipush 40, 66, 40, 0, 0), (66, .invokestatic 41, 69, 9001, 0, 0), (69, .aload_n 1, 70, 0, 0, 0), (70, .getfield 31, 73, 2, 6, 0), (73, .iconst 0, 74, 0, 0, 0), (74, .aload_n 0, 75, 0, 0, 0), (75, .getfield 31, 78, 2, 6, 0), (78, .iconst 0, 79, 0, 0, 0), (79, .bipush 40, 81, 40, 0, 0), (81, .invokestatic 41, 84, 9001, 0, 0), (84, .return_, 85, 0, 0, 0)]
theorem ok_E_takeFrom : am_okM 71 cd_E_takeFrom := by unfold am_okM; rw [am_m_71]; decide +kernel
/-- ThingsThrown.on(I)I -/
abbrev n_T_on : Nat := 72
def cd_T_on : List Am_E := [(0, .iload_n 1, 1, 0, 0, 0), (1, .invokestatic 210, 4, 70, 1, 0), (4, .ifCond .ne 5, 7, 9, 0, 0), (7, .iconst (-1), 8, 1, 1, 0), (8, .ireturn, 9, 0, 0, 0), (9, .aload_n 0, 10, 0, 0, 0), (10, .getfield 39, 13, 0, 5, 0), (13, .iload_n 1, 14, 0, 0, 0), (14, .aaload, 15, 0, 0, 0), (15, .invokevirtual 216, 18, 60, 1, 2), (18, .ifCond .eq 9, 21, 27, 0, 0), (21, .aload_n 0, 22, 0, 0, 0), (22, .iconst 1, 23, 1, 0, 0), (23, .invokevirtual 87, 26, 10, 2, 0), (26, .ireturn, 27, 0, 0, 0), (27, .aload_n 0, 28, 0, 0, 0), (28, .getfield 35, 31, 0, 4, 0), (31, .aload_n 0, 32, 0, 0, 0), (32, .getfield 39, 35, 0, 5, 0), (35, .iload_n 1, 36, 0, 0, 0), (36, .aaload, 37, 0, 0, 0), (37, .invokevirtual 213, 40, 71, 2, 2), (40, .aload_n 0, 41, 0, 0, 0), (41, .getfield 35, 44, 0, 4, 0), (44, .getfield 204, 47, 2, 2, 0), (47, .ireturn, 48, 0, 0, 0)]
theorem ok_T_on : am_okM 72 cd_T_on := by unfold am_okM; rw [am_m_72]; decide +kernel
/-- ThingsThrown.lands(II)I -/
abbrev n_T_lands : Nat := 73
def cd_T_lands : List Am_E := [(0, .aload_n 0, 1, 0, 0, 0), (1, .iload_n 1, 2, 0, 0, 0), (2, .invokevirtual 149, 5, 40, 2, 0), (5, .ifCond .eq 10, 8, 15, 0, 0), (8, .iload_n 2, 9, 0, 0, 0), (9, .invokestatic 179, 12, 51, 1, 0), (12, .ifCond .ne 5, 15, 17, 0, 0), (15, .iconst (-1), 16, 1, 1, 0), (16, .ireturn, 17, 0, 0, 0), (17, .aload_n 0, 18, 0, 0, 0), (18, .getfield 28, 21, 0, 3, 0), (21, .getfield 157, 24, 6, 1, 0), (24, .iload_n 1, 25, 0, 0, 0), (25, .iaload, 26, 0, 0, 0), (26, .iload_n 2, 27, 0, 0, 0), (27, .invokestatic 219, 30, 46, 2, 0), (30, .ireturn, 31, 0, 0, 0)]
theorem ok_T_lands : am_okM 73 cd_T_lands := by unfold am_okM; rw [am_m_73]; decide +kernel
/-- ThingsThrown.may()I -/
abbrev n_T_may : Nat := 74
def cd_T_may : List Am_E := [(0, .aload_n 0, 1, 0, 0, 0), (1, .getfield 28, 4, 0, 3, 0), (4, .getfield 148, 7, 6, 0, 0), (7, .ifCond .ne 6, 10, 13, 0, 0), (10, .bipush (-4), 12, 4, 1, 0), (12, .ireturn, 13, 0, 0, 0), (13, .aload_n 0, 14, 0, 0, 0), (14, .getfield 28, 17, 0, 3, 0), (17, .aload_n 0, 18, 0, 0, 0), (18, .getfield 35, 21, 0, 4, 0), (21, .getfield 166, 24, 2, 0, 0), (24, .invokevirtual 195, 27, 53, 2, 6), (27, .istore_n 1, 28, 0, 0, 0), (28, .iload_n 1, 29, 0, 0, 0), (29, .bipush (-9), 31, 9, 1, 0), (31, .if_icmp .ne 6, 34, 37, 0, 0), (34, .bipush (-9), 36, 9, 1, 0), (36, .ireturn, 37, 0, 0, 0), (37, .aload_n 0, 38, 0, 0, 0), (38, .iload_n 1, 39, 0, 0, 0), (39, .invokevirtual 102, 42, 17, 2, 0), (42, .pop, 43, 0, 0, 0), (43, .aload_n 0, 44, 0, 0, 0), (44, .getfield 28, 47, 0, 3, 0), (47, .aload_n 0, 48, 0, 0, 0), (48, .getfield 35, 51, 0, 4, 0), (51, .getfield 166, 54, 2, 0, 0), (54, .invokevirtual 222, 57, 75, 2, 6), (57, .ireturn, 58, 0, 0, 0)]
theorem ok_T_may : am_okM 74 cd_T_may := by unfold am_okM; rw [am_m_74]; decide +kernel
end
section
/-! ===== code tables, by program ===== -/
/-- ThingsThrown$Troupe.heightsNow(I)I -/
abbrev n_P_heightsNow : Nat := 75
def cd_P_heightsNow : List Am_E := [(0, .aload_n 0, 1, 0, 0, 0), (1, .iload_n 1, 2, 0, 0, 0), (2, .invokevirtual 52, 5, 53, 2, 6), (5, .istore_n 2, 6, 0, 0, 0), (6, .iload_n 2, 7, 0, 0, 0), (7, .bipush (-9), 9, 9, 1, 0), (9, .if_icmp .ne 5, 12, 14, 0, 0), (12, .iconst 0, 13, 0, 0, 0), (13, .ireturn, 14, 0, 0, 0), (14, .aload_n 0, 15, 0, 0, 0), (15, .iload_n 1, 16, 0, 0, 0), (16, .invokevirtual 55, 19, 32, 2, 6), (19, .istore_n 3, 20, 0, 0, 0), (20, .iconst 0, 21, 0, 0, 0), (21, .istore 4, 23, 0, 0, 0), (23, .iconst 1, 24, 1, 0, 0), (24, .istore 5, 26, 0, 0, 0), (26, .iload 5, 28, 0, 0, 0), (28, .bipush 7, 30, 7, 0, 0), (30, .if_icmp .gt 36, 33, 66, 0, 0), (33, .iload_n 3, 34, 0, 0, 0), (34, .aload_n 0, 35, 0, 0, 0), (35, .getfield 15, 38, 6, 1, 0), (38, .iload_n 2, 39, 0, 0, 0), (39, .iaload, 40, 0, 0, 0), (40, .iload 5, 42, 0, 0, 0), (42, .invokestatic 58, 45, 46, 2, 0), (45, .invokestatic 61, 48, 54, 2, 0), (48, .ifCond .eq 12, 51, 60, 0, 0), (51, .iload 4, 53, 0, 0, 0), (53, .iconst 1, 54, 1, 0, 0), (54, .iload 5, 56, 0, 0, 0), (56, .ishl, 57, 0, 0, 0), (57, .ior, 58, 0, 0, 0), (58, .istore 4, 60, 0, 0, 0), (60, .iinc 5 1, 63, 1, 0, 0), (63, .goto (-37), 66, 26, 0, 0), (66, .iload 4, 68, 0, 0, 0), (68, .ireturn, 69, 0, 0, 0)]
theorem ok_P_heightsNow : am_okM 75 cd_P_heightsNow := by unfold am_okM; rw [am_m_75]; decide +kernel
/-- ThingsThrown.run(I)I -/
abbrev n_T_run : Nat := 76
def cd_T_run : List Am_E := [(0, .aload_n 0, 1, 0, 0, 0), (1, .iload_n 1, 2, 0, 0, 0), (2, .iconst 0, 3, 0, 0, 0), (3, .bipush 20, 5, 20, 0, 0), (5, .invokevirtual 225, 8, 77, 4, 0), (8, .istore_n 2, 9, 0, 0, 0), (9, .iload_n 2, 10, 0, 0, 0), (10, .ifCond .eq 5, 13, 15, 0, 0), (13, .iload_n 2, 14, 0, 0, 0), (14, .ireturn, 15, 0, 0, 0), (15, .aload_n 0, 16, 0, 0, 0), (16, .getfield 48, 19, 0, 6, 0), (19, .aload_n 0, 20, 0, 0, 0), (20, .getfield 35, 23, 0, 4, 0), (23, .getfield 166, 26, 2, 0, 0), (26, .aload_n 0, 27, 0, 0, 0), (27, .getfield 11, 30, 0, 0, 0), (30, .iload_n 1, 31, 0, 0, 0), (31, .aaload, 32, 0, 0, 0), (32, .invokevirtual 229, 35, 78, 3, 3), (35, .istore_n 3, 36, 0, 0, 0), (36, .aload_n 0, 37, 0, 0, 0), (37, .aload_n 0, 38, 0, 0, 0), (38, .getfield 28, 41, 0, 3, 0), (41, .aload_n 0, 42, 0, 0, 0), (42, .getfield 48, 45, 0, 6, 0), (45, .getfield 233, 48, 3, 1, 0), (48, .invokevirtual 236, 51, 32, 2, 6), (51, .invokevirtual 102, 54, 17, 2, 0), (54, .pop, 55, 0, 0, 0), (55, .iload_n 3, 56, 0, 0, 0), (56, .ireturn, 57, 0, 0, 0)]
theorem ok_T_run : am_okM 76 cd_T_run := by unfold am_okM; rw [am_m_76]; decide +kernel
/-- ThingsThrown.refusalOfThrows(III)I -/
abbrev n_T_refusalOfThrows : Nat := 77
def cd_T_refusalOfThrows : List Am_E := [(0, .aload_n 0, 1, 0, 0, 0), (1, .getfield 28, 4, 0, 3, 0), (4, .getfield 148, 7, 6, 0, 0), (7, .ifCond .ne 6, 10, 13, 0, 0), (10, .bipush (-4), 12, 4, 1, 0), (12, .ireturn, 13, 0, 0, 0), (13, .aload_n 0, 14, 0, 0, 0), (14, .iload_n 1, 15, 0, 0, 0), (15, .invokevirtual 105, 18, 14, 2, 0), (18, .istore 4, 20, 0, 0, 0), (20, .iload 4, 22, 0, 0, 0), (22, .ifCond .eq 6, 25, 28, 0, 0), (25, .iload 4, 27, 0, 0, 0), (27, .ireturn, 28, 0, 0, 0), (28, .aload_n 0, 29, 0, 0, 0), (29, .getfield 11, 32, 0, 0, 0), (32, .iload_n 1, 33, 0, 0, 0), (33, .aaload, 34, 0, 0, 0), (34, .astore 5, 36, 0, 0, 0), (36, .aload 5, 38, 0, 0, 0), (38, .getfield 108, 41, 4, 1, 0), (41, .iload_n 2, 42, 0, 0, 0), (42, .if_icmp .lt 12, 45, 54, 0, 0), (45, .aload 5, 47, 0, 0, 0), (47, .getfield 108, 50, 4, 1, 0), (50, .iload_n 3, 51, 0, 0, 0), (51, .if_icmp .le 9, 54, 60, 0, 0), (54, .aload_n 0, 55, 0, 0, 0), (55, .iconst 5, 56, 5, 0, 0), (56, .invokevirtual 87, 59, 10, 2, 0), (59, .ireturn, 60, 0, 0, 0), (60, .iconst 0, 61, 0, 0, 0), (61, .istore 6, 63, 0, 0, 0), (63, .iload 6, 65, 0, 0, 0), (65, .aload 5, 67, 0, 0, 0), (67, .getfield 108, 70, 4, 1, 0), (70, .if_icmp .ge 29, 73, 99, 0, 0), (73, .aload 5, 75, 0, 0, 0), (75, .getfield 99, 78, 4, 0, 0), (78, .iload 6, 80, 0, 0, 0), (80, .iaload, 81, 0, 0, 0), (81, .invokestatic 179, 84, 51, 1, 0), (84, .ifCond .ne 9, 87, 93, 0, 0), (87, .aload_n 0, 88, 0, 0, 0), (88, .iconst 3, 89, 3, 0, 0), (89, .invokevirtual 87, 92, 10, 2, 0), (92, .ireturn, 93, 0, 0, 0), (93, .iinc 6 1, 96, 1, 0, 0), (96, .goto (-33), 99, 63, 0, 0), (99, .iconst 0, 100, 0, 0, 0), (100, .ireturn, 101, 0, 0, 0)]
theorem ok_T_refusalOfThrows : am_okM 77 cd_T_refusalOfThrows := by unfold am_okM; rw [am_m_77]; decide +kernel
/-- ThingsThrown$Outlook.throwsMade(ILThingsThrown$Sheet;)I -/
abbrev n_O_throwsMade : Nat := 78
def cd_O_throwsMade : List Am_E := [(0, .aload_n 0, 1, 0, 0, 0), (1, .iload_n 1, 2, 0, 0, 0), (2, .putfield 9, 5, 3, 1, 0), (5, .iconst 0, 6, 0, 0, 0), (6, .istore_n 3, 7, 0, 0, 0), (7, .iload_n 3, 8, 0, 0, 0), (8, .aload_n 2, 9, 0, 0, 0), (9, .getfield 26, 12, 4, 1, 0), (12, .if_icmp .ge 67, 15, 79, 0, 0), (15, .aload_n 0, 16, 0, 0, 0), (16, .aload_n 0, 17, 0, 0, 0), (17, .getfield 22, 20, 3, 0, 0), (20, .aload_n 0, 21, 0, 0, 0), (21, .getfield 9, 24, 3, 1, 0), (24, .invokevirtual 31, 27, 79, 2, 6), (27, .putfield 9, 30, 3, 1, 0), (30, .aload_n 0, 31, 0, 0, 0), (31, .getfield 22, 34, 3, 0, 0), (34, .aload_n 0, 35, 0, 0, 0), (35, .getfield 9, 38, 3, 1, 0), (38, .aload_n 2, 39, 0, 0, 0), (39, .getfield 37, 42, 4, 0, 0), (42, .iload_n 3, 43, 0, 0, 0), (43, .iaload, 44, 0, 0, 0), (44, .invokevirtual 40, 47, 52, 3, 6), (47, .ifCond .ne 5, 50, 52, 0, 0), (50, .iload_n 3, 51, 0, 0, 0), (51, .ireturn, 52, 0, 0, 0), (52, .aload_n 0, 53, 0, 0, 0), (53, .aload_n 0, 54, 0, 0, 0), (54, .getfield 22, 57, 3, 0, 0), (57, .aload_n 0, 58, 0, 0, 0), (58, .getfield 9, 61, 3, 1, 0), (61, .aload_n 2, 62, 0, 0, 0), (62, .getfield 37, 65, 4, 0, 0), (65, .iload_n 3, 66, 0, 0, 0), (66, .iaload, 67, 0, 0, 0), (67, .invokevirtual 44, 70, 57, 3, 6), (70, .putfield 9, 73, 3, 1, 0), (73, .iinc 3 1, 76, 1, 0, 0), (76, .goto (-69), 79, 7, 0, 0), (79, .aload_n 2, 80, 0, 0, 0), (80, .getfield 26, 83, 4, 1, 0), (83, .ireturn, 84, 0, 0, 0)]
theorem ok_O_throwsMade : am_okM 78 cd_O_throwsMade := by unfold am_okM; rw [am_m_78]; decide +kernel
/-- ThingsThrown$Troupe.rested(I)I -/
abbrev n_P_rested : Nat := 79
def cd_P_rested : List Am_E := [(0, .aload_n 0, 1, 0, 0, 0), (1, .iload_n 1, 2, 0, 0, 0), (2, .aload_n 0, 3, 0, 0, 0), (3, .iload_n 1, 4, 0, 0, 0), (4, .invokevirtual 45, 7, 80, 2, 6), (7, .invokevirtual 49, 10, 58, 3, 6), (10, .ireturn, 11, 0, 0, 0)]
theorem ok_P_rested : am_okM 79 cd_P_rested := by unfold am_okM; rw [am_m_79]; decide +kernel
/-- ThingsThrown$Troupe.restsAhead(I)I -/
abbrev n_P_restsAhead : Nat := 80
def cd_P_restsAhead : List Am_E := [(0, .bipush 15, 2, 15, 0, 0), (2, .istore_n 2, 3, 0, 0, 0), (3, .iconst 0, 4, 0, 0, 0), (4, .istore_n 3, 5, 0, 0, 0), (5, .iload_n 3, 6, 0, 0, 0), (6, .aload_n 0, 7, 0, 0, 0), (7, .getfield 9, 10, 6, 0, 0), (10, .if_icmp .ge 19, 13, 29, 0, 0), (13, .iload_n 2, 14, 0, 0, 0), (14, .iload_n 1, 15, 0, 0, 0), (15, .iload_n 3, 16, 0, 0, 0), (16, .invokestatic 19, 19, 33, 2, 0), (19, .invokestatic 39, 22, 9003, 0, 0), (22, .istore_n 2, 23, 0, 0, 0), (23, .iinc 3 1, 26, 1, 0, 0), (26, .goto (-21), 29, 5, 0, 0), (29, .iload_n 2, 30, 0, 0, 0), (30, .ireturn, 31, 0, 0, 0)]
theorem ok_P_restsAhead : am_okM 80 cd_P_restsAhead := by unfold am_okM; rw [am_m_80]; decide +kernel
/-- ThingsThrown.rounds(I)I -/
abbrev n_T_rounds : Nat := 81
def cd_T_rounds : List Am_E := [(0, .aload_n 0, 1, 0, 0, 0), (1, .iload_n 1, 2, 0, 0, 0), (2, .iconst 1, 3, 1, 0, 0), (3, .bipush 20, 5, 20, 0, 0), (5, .invokevirtual 225, 8, 77, 4, 0), (8, .istore_n 2, 9, 0, 0, 0), (9, .iload_n 2, 10, 0, 0, 0), (10, .ifCond .eq 5, 13, 15, 0, 0), (13, .iload_n 2, 14, 0, 0, 0), (14, .ireturn, 15, 0, 0, 0), (15, .aload_n 0, 16, 0, 0, 0), (16, .getfield 48, 19, 0, 6, 0), (19, .aload_n 0, 20, 0, 0, 0), (20, .getfield 35, 23, 0, 4, 0), (23, .getfield 166, 26, 2, 0, 0), (26, .aload_n 0, 27, 0, 0, 0), (27, .getfield 11, 30, 0, 0, 0), (30, .iload_n 1, 31, 0, 0, 0), (31, .aaload, 32, 0, 0, 0), (32, .invokevirtual 239, 35, 82, 3, 3), (35, .ireturn, 36, 0, 0, 0)]
theorem ok_T_rounds : am_okM 81 cd_T_rounds := by unfold am_okM; rw [am_m_81]; decide +kernel
/-- ThingsThrown$Outlook.roundsBack(ILThingsThrown$Sheet;)I -/
abbrev n_O_roundsBack : Nat := 82
def cd_O_roundsBack : List Am_E := [(0, .iload_n 1, 1, 0, 0, 0), (1, .istore_n 3, 2, 0, 0, 0), (2, .iconst 1, 3, 1, 0, 0), (3, .istore 4, 5, 0, 0, 0), (5, .iload 4, 7, 0, 0, 0), (7, .bipush 100, 9, 100, 0, 0), (9, .if_icmp .gt 42, 12, 51, 0, 0), (12, .aload_n 0, 13, 0, 0, 0), (13, .iload_n 3, 14, 0, 0, 0), (14, .aload_n 2, 15, 0, 0, 0), (15, .invokevirtual 48, 18, 78, 3, 3), (18, .aload_n 2, 19, 0, 0, 0), (19, .getfield 26, 22, 4, 1, 0), (22, .if_icmp .ge 6, 25, 28, 0, 0), (25, .bipush (-9), 27, 9, 1, 0), (27, .ireturn, 28, 0, 0, 0), (28, .aload_n 0, 29, 0, 0, 0), (29, .getfield 9, 32, 3, 1, 0), (32, .istore_n 3, 33, 0, 0, 0), (33, .aload_n 0, 34, 0, 0, 0), (34, .iload_n 3, 35, 0, 0, 0), (35, .iload_n 1, 36, 0, 0, 0), (36, .invokevirtual 52, 39, 83, 3, 3), (39, .ifCond .eq 6, 42, 45, 0, 0), (42, .iload 4, 44, 0, 0, 0), (44, .ireturn, 45, 0, 0, 0), (45, .iinc 4 1, 48, 1, 0, 0), (48, .goto (-43), 51, 5, 0, 0), (51, .bipush (-9), 53, 9, 1, 0), (53, .ireturn, 54, 0, 0, 0)]
theorem ok_O_roundsBack : am_okM 82 cd_O_roundsBack := by unfold am_okM; rw [am_m_82]; decide +kernel
/-- ThingsThrown$Outlook.comesToDues(II)Z -/
abbrev n_O_comesToDues : Nat := 83
def cd_O_comesToDues : List Am_E := [(0, .aload_n 0, 1, 0, 0, 0), (1, .getfield 22, 4, 3, 0, 0), (4, .iload_n 1, 5, 0, 0, 0), (5, .invokevirtual 55, 8, 80, 2, 6), (8, .istore_n 3, 9, 0, 0, 0), (9, .iconst 0, 10, 0, 0, 0), (10, .istore 4, 12, 0, 0, 0), (12, .iload 4, 14, 0, 0, 0), (14, .iload_n 3, 15, 0, 0, 0), (15, .if_icmp .gt 25, 18, 40, 0, 0), (18, .aload_n 0, 19, 0, 0, 0), (19, .getfield 22, 22, 3, 0, 0), (22, .iload_n 1, 23, 0, 0, 0), (23, .iload 4, 25, 0, 0, 0), (25, .invokevirtual 58, 28, 58, 3, 6), (28, .iload_n 2, 29, 0, 0, 0), (29, .if_icmp .ne 5, 32, 34, 0, 0), (32, .iconst 1, 33, 1, 0, 0), (33, .ireturn, 34, 0, 0, 0), (34, .iinc 4 1, 37, 1, 0, 0), (37, .goto (-25), 40, 12, 0, 0), (40, .iconst 0, 41, 0, 0, 0), (41, .ireturn, 42, 0, 0, 0)]
theorem ok_O_comesToDues : am_okM 83 cd_O_comesToDues := by unfold am_okM; rw [am_m_83]; decide +kernel
/-- ThingsThrown.fewest(II)I -/
abbrev n_T_fewest : Nat := 84
def cd_T_fewest : List Am_E := [(0, .aload_n 0, 1, 0, 0, 0), (1, .getfield 28, 4, 0, 3, 0), (4, .getfield 148, 7, 6, 0, 0), (7, .ifCond .ne 6, 10, 13, 0, 0), (10, .bipush (-4), 12, 4, 1, 0), (12, .ireturn, 13, 0, 0, 0), (13, .iload_n 1, 14, 0, 0, 0), (14, .invokestatic 242, 17, 85, 1, 0), (17, .ifCond .eq 10, 20, 27, 0, 0), (20, .iload_n 2, 21, 0, 0, 0), (21, .invokestatic 83, 24, 9, 1, 0), (24, .ifCond .ne 5, 27, 29, 0, 0), (27, .iconst (-1), 28, 1, 1, 0), (28, .ireturn, 29, 0, 0, 0), (29, .aload_n 0, 30, 0, 0, 0), (30, .getfield 48, 33, 0, 6, 0), (33, .aload_n 0, 34, 0, 0, 0), (34, .getfield 35, 37, 0, 4, 0), (37, .getfield 166, 40, 2, 0, 0), (40, .iload_n 1, 41, 0, 0, 0), (41, .invokevirtual 245, 44, 86, 3, 3), (44, .istore_n 3, 45, 0, 0, 0), (45, .iload_n 3, 46, 0, 0, 0), (46, .bipush (-9), 48, 9, 1, 0), (48, .if_icmp .ne 6, 51, 54, 0, 0), (51, .bipush (-9), 53, 9, 1, 0), (53, .ireturn, 54, 0, 0, 0), (54, .aload_n 0, 55, 0, 0, 0), (55, .getfield 11, 58, 0, 0, 0), (58, .iload_n 2, 59, 0, 0, 0), (59, .aaload, 60, 0, 0, 0), (60, .iload_n 3, 61, 0, 0, 0), (61, .iconst 0, 62, 0, 0, 0), (62, .invokevirtual 91, 65, 11, 3, 4), (65, .aload_n 0, 66, 0, 0, 0), (66, .getfield 48, 69, 0, 6, 0), (69, .getfield 248, 72, 3, 2, 0), (72, .iconst 0, 73, 0, 0, 0), (73, .aload_n 0, 74, 0, 0, 0), (74, .getfield 11, 77, 0, 0, 0), (77, .iload_n 2, 78, 0, 0, 0), (78, .aaload, 79, 0, 0, 0), (79, .getfield 99, 82, 4, 0, 0), (82, .iconst 0, 83, 0, 0, 0), (83, .iload_n 3, 84, 0, 0, 0), (84, .invokestatic 119, 87, 9001, 0, 0), (87, .iload_n 3, 88, 0, 0, 0), (88, .ireturn, 89, 0, 0, 0)]
theorem ok_T_fewest : am_okM 84 cd_T_fewest := by unfold am_okM; rw [am_m_84]; decide +kernel
/-- ThingsThrown.isSky(I)Z -/
abbrev n_T_isSky : Nat := 85
def cd_T_isSky : List Am_E := [(0, .iload_n 0, 1, 0, 0, 0), (1, .ifCond .lt 14, 4, 15, 0, 0), (4, .iload_n 0, 5, 0, 0, 0), (5, .ldc_w 331, 8, 65535, 0, 0), (8, .if_icmp .gt 7, 11, 15, 0, 0), (11, .iconst 1, 12, 1, 0, 0), (12, .goto 4, 15, 16, 0, 0), (15, .iconst 0, 16, 0, 0, 0), (16, .ireturn, 17, 0, 0, 0)]
theorem ok_T_isSky : am_okM 85 cd_T_isSky := by unfold am_okM; rw [am_m_85]; decide +kernel
/-- ThingsThrown$Outlook.fewestTo(II)I -/
abbrev n_O_fewestTo : Nat := 86
def cd_O_fewestTo : List Am_E := [(0, .iload_n 2, 1, 0, 0, 0), (1, .invokestatic 64, 4, 87, 1, 0), (4, .aload_n 0, 5, 0, 0, 0), (5, .getfield 22, 8, 3, 0, 0), (8, .getfield 69, 11, 6, 0, 0), (11, .if_icmp .eq 6, 14, 17, 0, 0), (14, .bipush (-9), 16, 9, 1, 0), (16, .ireturn, 17, 0, 0, 0), (17, .iconst 0, 18, 0, 0, 0), (18, .istore_n 3, 19, 0, 0, 0), (19, .iload_n 3, 20, 0, 0, 0), (20, .iconst 4, 21, 4, 0, 0), (21, .if_icmp .gt 22, 24, 43, 0, 0), (24, .aload_n 0, 25, 0, 0, 0), (25, .iload_n 1, 26, 0, 0, 0), (26, .iload_n 2, 27, 0, 0, 0), (27, .iconst 0, 28, 0, 0, 0), (28, .iload_n 3, 29, 0, 0, 0), (29, .invokevirtual 70, 32, 88, 5, 3), (32, .ifCond .eq 5, 35, 37, 0, 0), (35, .iload_n 3, 36, 0, 0, 0), (36, .ireturn, 37, 0, 0, 0), (37, .iinc 3 1, 40, 1, 0, 0), (40, .goto (-21), 43, 19, 0, 0), (43, .bipush (-9), 45, 9, 1, 0), (45, .ireturn, 46, 0, 0, 0)]
theorem ok_O_fewestTo : am_okM 86 cd_O_fewestTo := by unfold am_okM; rw [am_m_86]; decide +kernel
/-- java/lang/Integer.bitCount(I)I -/
abbrev n_Int_bitCount : Nat := 87
def cd_Int_bitCount : List Am_E := [(0, .iload_n 0, 1, 0, 0, 0), (1, .iload_n 0, 2, 0, 0, 0), (2, .iconst 1, 3, 1, 0, 0), (3, .iushr, 4, 0, 0, 0), (4, .ldc_w 265, 7, 1431655765, 0, 0), (7, .iand, 8, 0, 0, 0), (8, .isub, 9, 0, 0, 0), (9, .istore_n 0, 10, 0, 0, 0), (10, .iload_n 0, 11, 0, 0, 0), (11, .ldc_w 266, 14, 858993459, 0, 0), (14, .iand, 15, 0, 0, 0), (15, .iload_n 0, 16, 0, 0, 0), (16, .iconst 2, 17, 2, 0, 0), (17, .iushr, 18, 0, 0, 0), (18, .ldc_w 266, 21, 858993459, 0, 0), (21, .iand, 22, 0, 0, 0), (22, .iadd, 23, 0, 0, 0), (23, .istore_n 0, 24, 0, 0, 0), (24, .iload_n 0, 25, 0, 0, 0), (25, .iload_n 0, 26, 0, 0, 0), (26, .iconst 4, 27, 4, 0, 0), (27, .iushr, 28, 0, 0, 0), (28, .iadd, 29, 0, 0, 0), (29, .ldc_w 267, 32, 252645135, 0, 0), (32, .iand, 33, 0, 0, 0), (33, .istore_n 0, 34, 0, 0, 0), (34, .iload_n 0, 35, 0, 0, 0), (35, .iload_n 0, 36, 0, 0, 0), (36, .bipush 8, 38, 8, 0, 0), (38, .iushr, 39, 0, 0, 0), (39, .iadd, 40, 0, 0, 0), (40, .istore_n 0, 41, 0, 0, 0), (41, .iload_n 0, 42, 0, 0, 0), (42, .iload_n 0, 43, 0, 0, 0), (43, .bipush 16, 45, 16, 0, 0), (45, .iushr, 46, 0, 0, 0), (46, .iadd, 47, 0, 0, 0), (47, .istore_n 0, 48, 0, 0, 0), (48, .iload_n 0, 49, 0, 0, 0), (49, .bipush 63, 51, 63, 0, 0), (51, .iand, 52, 0, 0, 0), (52, .ireturn, 53, 0, 0, 0)]
theorem ok_Int_bitCount : am_okM 87 cd_Int_bitCount := by unfold am_okM; rw [am_m_87]; decide +kernel
/-- ThingsThrown$Outlook.leadsTo(IIII)Z -/
abbrev n_O_leadsTo : Nat := 88
def cd_O_leadsTo : List Am_E := [(0, .iload_n 3, 1, 0, 0, 0), (1, .iload 4, 3, 0, 0, 0), (3, .if_icmp .ge 8, 6, 11, 0, 0), (6, .iload_n 3, 7, 0, 0, 0), (7, .iconst 4, 8, 4, 0, 0), (8, .if_icmp .lt 10, 11, 18, 0, 0), (11, .aload_n 0, 12, 0, 0, 0), (12, .iload_n 1, 13, 0, 0, 0), (13, .iload_n 2, 14, 0, 0, 0), (14, .invokevirtual 74, 17, 89, 3, 3), (17, .ireturn, 18, 0, 0, 0), (18, .aload_n 0, 19, 0, 0, 0), (19, .getfield 22, 22, 3, 0, 0), (22, .iload_n 1, 23, 0, 0, 0), (23, .invokevirtual 31, 26, 79, 2, 6), (26, .istore 5, 28, 0, 0, 0), (28, .aload_n 0, 29, 0, 0, 0), (29, .getfield 22, 32, 3, 0, 0), (32, .iload 5, 34, 0, 0, 0), (34, .invokevirtual 77, 37, 75, 2, 6), (37, .istore 6, 39, 0, 0, 0), (39, .iconst 1, 40, 1, 0, 0), (40, .istore 7, 42, 0, 0, 0), (42, .iload 7, 44, 0, 0, 0), (44, .bipush 7, 46, 7, 0, 0), (46, .if_icmp .gt 53, 49, 99, 0, 0), (49, .iload 6, 51, 0, 0, 0), (51, .iload 7, 53, 0, 0, 0), (53, .ishr, 54, 0, 0, 0), (54, .iconst 1, 55, 1, 0, 0), (55, .iand, 56, 0, 0, 0), (56, .ifCond .eq 37, 59, 93, 0, 0), (59, .aload_n 0, 60, 0, 0, 0), (60, .getfield 15, 63, 3, 2, 0), (63, .iload_n 3, 64, 0, 0, 0), (64, .iload 7, 66, 0, 0, 0), (66, .iastore, 67, 0, 0, 0), (67, .aload_n 0, 68, 0, 0, 0), (68, .aload_n 0, 69, 0, 0, 0), (69, .getfield 22, 72, 3, 0, 0), (72, .iload 5, 74, 0, 0, 0), (74, .iload 7, 76, 0, 0, 0), (76, .invokevirtual 44, 79, 57, 3, 6), (79, .iload_n 2, 80, 0, 0, 0), (80, .iload_n 3, 81, 0, 0, 0), (81, .iconst 1, 82, 1, 0, 0), (82, .iadd, 83, 0, 0, 0), (83, .iload 4, 85, 0, 0, 0), (85, .invokevirtual 70, 88, 88, 5, 3), (88, .ifCond .eq 5, 91, 93, 0, 0), (91, .iconst 1, 92, 1, 0, 0), (92, .ireturn, 93, 0, 0, 0), (93, .iinc 7 1, 96, 1, 0, 0), (96, .goto (-54), 99, 42, 0, 0), (99, .iconst 0, 100, 0, 0, 0), (100, .ireturn, 101, 0, 0, 0)]
theorem ok_O_leadsTo : am_okM 88 cd_O_leadsTo := by unfold am_okM; rw [am_m_88]; decide +kernel
/-- ThingsThrown$Outlook.comesToSky(II)Z -/
abbrev n_O_comesToSky : Nat := 89
def cd_O_comesToSky : List Am_E := [(0, .aload_n 0, 1, 0, 0, 0), (1, .getfield 22, 4, 3, 0, 0), (4, .iload_n 1, 5, 0, 0, 0), (5, .invokevirtual 55, 8, 80, 2, 6), (8, .istore_n 3, 9, 0, 0, 0), (9, .aload_n 0, 10, 0, 0, 0), (10, .getfield 22, 13, 3, 0, 0), (13, .iload_n 1, 14, 0, 0, 0), (14, .invokevirtual 61, 17, 32, 2, 6), (17, .istore 4, 19, 0, 0, 0), (19, .iconst 0, 20, 0, 0, 0), (20, .istore 5, 22, 0, 0, 0), (22, .iload 5, 24, 0, 0, 0), (24, .iload_n 3, 25, 0, 0, 0), (25, .if_icmp .gt 20, 28, 45, 0, 0), (28, .iload 4, 30, 0, 0, 0), (30, .iload 5, 32, 0, 0, 0), (32, .ishr, 33, 0, 0, 0), (33, .iload_n 2, 34, 0, 0, 0), (34, .if_icmp .ne 5, 37, 39, 0, 0), (37, .iconst 1, 38, 1, 0, 0), (38, .ireturn, 39, 0, 0, 0), (39, .iinc 5 1, 42, 1, 0, 0), (42, .goto (-20), 45, 22, 0, 0), (45, .iconst 0, 46, 0, 0, 0), (46, .ireturn, 47, 0, 0, 0)]
theorem ok_O_comesToSky : am_okM 89 cd_O_comesToSky := by unfold am_okM; rw [am_m_89]; decide +kernel
/-- ThingsThrown.ways(I)I -/
abbrev n_T_ways : Nat := 90
def cd_T_ways : List Am_E := [(0, .aload_n 0, 1, 0, 0, 0), (1, .getfield 28, 4, 0, 3, 0), (4, .getfield 148, 7, 6, 0, 0), (7, .ifCond .ne 6, 10, 13, 0, 0), (10, .bipush (-4), 12, 4, 1, 0), (12, .ireturn, 13, 0, 0, 0), (13, .iload_n 1, 14, 0, 0, 0), (14, .iconst 1, 15, 1, 0, 0), (15, .if_icmp .lt 8, 18, 23, 0, 0), (18, .iload_n 1, 19, 0, 0, 0), (19, .iconst 4, 20, 4, 0, 0), (20, .if_icmp .le 5, 23, 25, 0, 0), (23, .iconst (-1), 24, 1, 1, 0), (24, .ireturn, 25, 0, 0, 0), (25, .aload_n 0, 26, 0, 0, 0), (26, .aload_n 0, 27, 0, 0, 0), (27, .getfield 48, 30, 0, 6, 0), (30, .aload_n 0, 31, 0, 0, 0), (31, .getfield 35, 34, 0, 4, 0), (34, .getfield 166, 37, 2, 0, 0), (37, .iload_n 1, 38, 0, 0, 0), (38, .invokevirtual 251, 41, 91, 3, 3), (41, .lconst 1, 42, 1, 0, 0), (42, .invokevirtual 255, 45, 93, 3, 0), (45, .pop, 46, 0, 0, 0), (46, .aload_n 0, 47, 0, 0, 0), (47, .aload_n 0, 48, 0, 0, 0), (48, .getfield 48, 51, 0, 6, 0), (51, .getfield 259, 54, 3, 3, 0), (54, .invokevirtual 102, 57, 17, 2, 0), (57, .ireturn, 58, 0, 0, 0)]
theorem ok_T_ways : am_okM 90 cd_T_ways := by unfold am_okM; rw [am_m_90]; decide +kernel
/-- ThingsThrown$Outlook.waysBack(II)J -/
abbrev n_O_waysBack : Nat := 91
def cd_O_waysBack : List Am_E := [(0, .aload_n 0, 1, 0, 0, 0), (1, .getfield 22, 4, 3, 0, 0), (4, .iload_n 1, 5, 0, 0, 0), (5, .invokevirtual 61, 8, 32, 2, 6), (8, .istore_n 3, 9, 0, 0, 0), (9, .aload_n 0, 10, 0, 0, 0), (10, .getfield 22, 13, 3, 0, 0), (13, .iload_n 1, 14, 0, 0, 0), (14, .invokevirtual 31, 17, 79, 2, 6), (17, .istore 4, 19, 0, 0, 0), (19, .aload_n 0, 20, 0, 0, 0), (20, .getfield 22, 23, 3, 0, 0), (23, .iload 4, 25, 0, 0, 0), (25, .invokevirtual 77, 28, 75, 2, 6), (28, .istore 5, 30, 0, 0, 0), (30, .lconst 0, 31, 0, 0, 0), (31, .lstore 6, 33, 0, 0, 0), (33, .aload_n 0, 34, 0, 0, 0), (34, .iconst 0, 35, 0, 0, 0), (35, .putfield 19, 38, 3, 3, 0), (38, .iconst 1, 39, 1, 0, 0), (39, .istore 8, 41, 0, 0, 0), (41, .iload 8, 43, 0, 0, 0), (43, .bipush 7, 45, 7, 0, 0), (45, .if_icmp .gt 71, 48, 116, 0, 0), (48, .iload 5, 50, 0, 0, 0), (50, .iload 8, 52, 0, 0, 0), (52, .ishr, 53, 0, 0, 0), (53, .iconst 1, 54, 1, 0, 0), (54, .iand, 55, 0, 0, 0), (55, .ifCond .eq 55, 58, 110, 0, 0), (58, .aload_n 0, 59, 0, 0, 0), (59, .aload_n 0, 60, 0, 0, 0), (60, .getfield 22, 63, 3, 0, 0), (63, .iload 4, 65, 0, 0, 0), (65, .iload 8, 67, 0, 0, 0), (67, .invokevirtual 44, 70, 57, 3, 6), (70, .iload_n 3, 71, 0, 0, 0), (71, .iload_n 2, 72, 0, 0, 0), (72, .iconst 1, 73, 1, 0, 0), (73, .isub, 74, 0, 0, 0), (74, .invokevirtual 80, 77, 92, 4, 3), (77, .lstore 9, 79, 0, 0, 0), (79, .lload 6, 81, 0, 0, 0), (81, .lload 9, 83, 0, 0, 0), (83, .ladd, 84, 0, 0, 0), (84, .lstore 6, 86, 0, 0, 0), (86, .aload_n 0, 87, 0, 0, 0), (87, .dup, 88, 0, 0, 0), (88, .getfield 19, 91, 3, 3, 0), (91, .lload 9, 93, 0, 0, 0), (93, .lconst 0, 94, 0, 0, 0), (94, .lcmp, 95, 0, 0, 0), (95, .ifCond .le 10, 98, 105, 0, 0), (98, .iconst 1, 99, 1, 0, 0), (99, .iload 8, 101, 0, 0, 0), (101, .ishl, 102, 0, 0, 0), (102, .goto 4, 105, 106, 0, 0), (105, .iconst 0, 106, 0, 0, 0), (106, .ior, 107, 0, 0, 0), (107, .putfield 19, 110, 3, 3, 0), (110, .iinc 8 1, 113, 1, 0, 0), (113, .goto (-72), 116, 41, 0, 0), (116, .lload 6, 118, 0, 0, 0), (118, .lreturn, 119, 0, 0, 0)]
theorem ok_O_waysBack : am_okM 91 cd_O_waysBack := by unfold am_okM; rw [am_m_91]; decide +kernel
/-- ThingsThrown$Outlook.waysTo(III)J -/
abbrev n_O_waysTo : Nat := 92
def cd_O_waysTo : List Am_E := [(0, .iload_n 3, 1, 0, 0, 0), (1, .ifCond .gt 21, 4, 22, 0, 0), (4, .aload_n 0, 5, 0, 0, 0), (5, .getfield 22, 8, 3, 0, 0), (8, .iload_n 1, 9, 0, 0, 0), (9, .invokevirtual 61, 12, 32, 2, 6), (12, .iload_n 2, 13, 0, 0, 0), (13, .if_icmp .ne 7, 16, 20, 0, 0), (16, .lconst 1, 17, 1, 0, 0), (17, .goto 4, 20, 21, 0, 0), (20, .lconst 0, 21, 0, 0, 0), (21, .lreturn, 22, 0, 0, 0), (22, .aload_n 0, 23, 0, 0, 0), (23, .getfield 22, 26, 3, 0, 0), (26, .iload_n 1, 27, 0, 0, 0), (27, .invokevirtual 31, 30, 79, 2, 6), (30, .istore 4, 32, 0, 0, 0), (32, .aload_n 0, 33, 0, 0, 0), (33, .getfield 22, 36, 3, 0, 0), (36, .iload 4, 38, 0, 0, 0), (38, .invokevirtual 77, 41, 75, 2, 6), (41, .istore 5, 43, 0, 0, 0), (43, .lconst 0, 44, 0, 0, 0), (44, .lstore 6, 46, 0, 0, 0), (46, .iconst 1, 47, 1, 0, 0), (47, .istore 8, 49, 0, 0, 0), (49, .iload 8, 51, 0, 0, 0), (51, .bipush 7, 53, 7, 0, 0), (53, .if_icmp .gt 43, 56, 96, 0, 0), (56, .iload 5, 58, 0, 0, 0), (58, .iload 8, 60, 0, 0, 0), (60, .ishr, 61, 0, 0, 0), (61, .iconst 1, 62, 1, 0, 0), (62, .iand, 63, 0, 0, 0), (63, .ifCond .eq 27, 66, 90, 0, 0), (66, .lload 6, 68, 0, 0, 0), (68, .aload_n 0, 69, 0, 0, 0), (69, .aload_n 0, 70, 0, 0, 0), (70, .getfield 22, 73, 3, 0, 0), (73, .iload 4, 75, 0, 0, 0), (75, .iload 8, 77, 0, 0, 0), (77, .invokevirtual 44, 80, 57, 3, 6), (80, .iload_n 2, 81, 0, 0, 0), (81, .iload_n 3, 82, 0, 0, 0), (82, .iconst 1, 83, 1, 0, 0), (83, .isub, 84, 0, 0, 0), (84, .invokevirtual 80, 87, 92, 4, 3), (87, .ladd, 88, 0, 0, 0), (88, .lstore 6, 90, 0, 0, 0), (90, .iinc 8 1, 93, 1, 0, 0), (93, .goto (-44), 96, 49, 0, 0), (96, .lload 6, 98, 0, 0, 0), (98, .lreturn, 99, 0, 0, 0)]
theorem ok_O_waysTo : am_okM 92 cd_O_waysTo := by unfold am_okM; rw [am_m_92]; decide +kernel
/-- ThingsThrown.tellRatio(JJ)I -/
abbrev n_T_tellRatio : Nat := 93
def cd_T_tellRatio : List Am_E := [(0, .lload_n 1, 1, 0, 0, 0), (1, .lload_n 3, 2, 0, 0, 0), (2, .invokestatic 332, 5, 94, 2, 0), (5, .lstore 5, 7, 0, 0, 0), (7, .lload 5, 9, 0, 0, 0), (9, .lconst 0, 10, 0, 0, 0), (10, .lcmp, 11, 0, 0, 0), (11, .ifCond .gt 6, 14, 17, 0, 0), (14, .lconst 1, 15, 1, 0, 0), (15, .lstore 5, 17, 0, 0, 0), (17, .aload_n 0, 18, 0, 0, 0), (18, .lload_n 1, 19, 0, 0, 0), (19, .lload 5, 21, 0, 0, 0), (21, .ldiv, 22, 0, 0, 0), (22, .putfield 70, 25, 0, 11, 0), (25, .aload_n 0, 26, 0, 0, 0), (26, .lload_n 3, 27, 0, 0, 0), (27, .lload 5, 29, 0, 0, 0), (29, .ldiv, 30, 0, 0, 0), (30, .putfield 74, 33, 0, 12, 0), (33, .iconst 1, 34, 1, 0, 0), (34, .ireturn, 35, 0, 0, 0)]
theorem ok_T_tellRatio : am_okM 93 cd_T_tellRatio := by unfold am_okM; rw [am_m_93]; decide +kernel
/-- ThingsThrown.sharedDivisor(JJ)J -/
abbrev n_T_sharedDivisor : Nat := 94
def cd_T_sharedDivisor : List Am_E := [(0, .lload_n 2, 1, 0, 0, 0), (1, .lstore 4, 3, 0, 0, 0), (3, .lload_n 0, 4, 0, 0, 0), (4, .lstore 6, 6, 0, 0, 0), (6, .iconst 0, 7, 0, 0, 0), (7, .istore 8, 9, 0, 0, 0), (9, .iload 8, 11, 0, 0, 0), (11, .sipush 128, 14, 128, 0, 0), (14, .if_icmp .ge 31, 17, 45, 0, 0), (17, .lload 6, 19, 0, 0, 0), (19, .lconst 0, 20, 0, 0, 0), (20, .lcmp, 21, 0, 0, 0), (21, .ifCond .eq 24, 24, 45, 0, 0), (24, .lload 4, 26, 0, 0, 0), (26, .lload 6, 28, 0, 0, 0), (28, .lrem, 29, 0, 0, 0), (29, .lstore 9, 31, 0, 0, 0), (31, .lload 6, 33, 0, 0, 0), (33, .lstore 4, 35, 0, 0, 0), (35, .lload 9, 37, 0, 0, 0), (37, .lstore 6, 39, 0, 0, 0), (39, .iinc 8 1, 42, 1, 0, 0), (42, .goto (-33), 45, 9, 0, 0), (45, .lload 4, 47, 0, 0, 0), (47, .lreturn, 48, 0, 0, 0)]
theorem ok_T_sharedDivisor : am_okM 94 cd_T_sharedDivisor := by unfold am_okM; rw [am_m_94]; decide +kernel
/-- ThingsThrown.height(I)I -/
abbrev n_T_height : Nat := 95
def cd_T_height : List Am_E := [(0, .aload_n 0, 1, 0, 0, 0), (1, .getfield 28, 4, 0, 3, 0), (4, .getfield 148, 7, 6, 0, 0), (7, .ifCond .ne 6, 10, 13, 0, 0), (10, .bipush (-4), 12, 4, 1, 0), (12, .ireturn, 13, 0, 0, 0), (13, .iload_n 1, 14, 0, 0, 0), (14, .invokestatic 242, 17, 85, 1, 0), (17, .ifCond .ne 5, 20, 22, 0, 0), (20, .iconst (-1), 21, 1, 1, 0), (21, .ireturn, 22, 0, 0, 0), (22, .aload_n 0, 23, 0, 0, 0), (23, .getfield 28, 26, 0, 3, 0), (26, .aload_n 0, 27, 0, 0, 0), (27, .getfield 35, 30, 0, 4, 0), (30, .getfield 166, 33, 2, 0, 0), (33, .invokevirtual 195, 36, 53, 2, 6), (36, .bipush (-9), 38, 9, 1, 0), (38, .if_icmp .ne 6, 41, 44, 0, 0), (41, .bipush (-9), 43, 9, 1, 0), (43, .ireturn, 44, 0, 0, 0), (44, .aload_n 0, 45, 0, 0, 0), (45, .getfield 48, 48, 0, 6, 0), (48, .aload_n 0, 49, 0, 0, 0), (49, .getfield 35, 52, 0, 4, 0), (52, .getfield 166, 55, 2, 0, 0), (55, .iload_n 1, 56, 0, 0, 0), (56, .invokevirtual 262, 59, 96, 3, 3), (59, .ireturn, 60, 0, 0, 0)]
theorem ok_T_height : am_okM 95 cd_T_height := by unfold am_okM; rw [am_m_95]; decide +kernel
/-- ThingsThrown$Outlook.heightsTo(II)I -/
abbrev n_O_heightsTo : Nat := 96
def cd_O_heightsTo : List Am_E := [(0, .aload_n 0, 1, 0, 0, 0), (1, .getfield 22, 4, 3, 0, 0), (4, .iload_n 1, 5, 0, 0, 0), (5, .invokevirtual 77, 8, 75, 2, 6), (8, .istore_n 3, 9, 0, 0, 0), (9, .iconst 0, 10, 0, 0, 0), (10, .istore 4, 12, 0, 0, 0), (12, .iconst 1, 13, 1, 0, 0), (13, .istore 5, 15, 0, 0, 0), (15, .iload 5, 17, 0, 0, 0), (17, .bipush 7, 19, 7, 0, 0), (19, .if_icmp .gt 48, 22, 67, 0, 0), (22, .iload_n 3, 23, 0, 0, 0), (23, .iload 5, 25, 0, 0, 0), (25, .ishr, 26, 0, 0, 0), (26, .iconst 1, 27, 1, 0, 0), (27, .iand, 28, 0, 0, 0), (28, .ifCond .eq 33, 31, 61, 0, 0), (31, .aload_n 0, 32, 0, 0, 0), (32, .getfield 22, 35, 3, 0, 0), (35, .aload_n 0, 36, 0, 0, 0), (36, .getfield 22, 39, 3, 0, 0), (39, .iload_n 1, 40, 0, 0, 0), (40, .iload 5, 42, 0, 0, 0), (42, .invokevirtual 44, 45, 57, 3, 6), (45, .invokevirtual 61, 48, 32, 2, 6), (48, .iload_n 2, 49, 0, 0, 0), (49, .if_icmp .ne 12, 52, 61, 0, 0), (52, .iload 4, 54, 0, 0, 0), (54, .iconst 1, 55, 1, 0, 0), (55, .iload 5, 57, 0, 0, 0), (57, .ishl, 58, 0, 0, 0), (58, .ior, 59, 0, 0, 0), (59, .istore 4, 61, 0, 0, 0), (61, .iinc 5 1, 64, 1, 0, 0), (64, .goto (-49), 67, 15, 0, 0), (67, .iload 4, 69, 0, 0, 0), (69, .ireturn, 70, 0, 0, 0)]
theorem ok_O_heightsTo : am_okM 96 cd_O_heightsTo := by unfold am_okM; rw [am_m_96]; decide +kernel
/-- ThingsThrown.kinds(II)I -/
abbrev n_T_kinds : Nat := 97
def cd_T_kinds : List Am_E := [(0, .aload_n 0, 1, 0, 0, 0), (1, .iload_n 1, 2, 0, 0, 0), (2, .iload_n 2, 3, 0, 0, 0), (3, .invokevirtual 265, 6, 98, 3, 0), (6, .istore_n 3, 7, 0, 0, 0), (7, .iload_n 3, 8, 0, 0, 0), (8, .ifCond .eq 7, 11, 15, 0, 0), (11, .iload_n 3, 12, 0, 0, 0), (12, .goto 12, 15, 24, 0, 0), (15, .aload_n 0, 16, 0, 0, 0), (16, .getfield 11, 19, 0, 0, 0), (19, .iload_n 2, 20, 0, 0, 0), (20, .aaload, 21, 0, 0, 0), (21, .invokestatic 268, 24, 99, 1, 0), (24, .ireturn, 25, 0, 0, 0)]
theorem ok_T_kinds : am_okM 97 cd_T_kinds := by unfold am_okM; rw [am_m_97]; decide +kernel
/-- ThingsThrown.refusalOfPairs(II)I -/
abbrev n_T_refusalOfPairs : Nat := 98
def cd_T_refusalOfPairs : List Am_E := [(0, .aload_n 0, 1, 0, 0, 0), (1, .iload_n 1, 2, 0, 0, 0), (2, .invokevirtual 149, 5, 40, 2, 0), (5, .ifCond .ne 5, 8, 10, 0, 0), (8, .iconst (-1), 9, 1, 1, 0), (9, .ireturn, 10, 0, 0, 0), (10, .aload_n 0, 11, 0, 0, 0), (11, .iload_n 2, 12, 0, 0, 0), (12, .invokevirtual 105, 15, 14, 2, 0), (15, .istore_n 3, 16, 0, 0, 0), (16, .iload_n 3, 17, 0, 0, 0), (17, .ifCond .eq 5, 20, 22, 0, 0), (20, .iload_n 3, 21, 0, 0, 0), (21, .ireturn, 22, 0, 0, 0), (22, .aload_n 0, 23, 0, 0, 0), (23, .getfield 11, 26, 0, 0, 0), (26, .iload_n 2, 27, 0, 0, 0), (27, .aaload, 28, 0, 0, 0), (28, .astore 4, 30, 0, 0, 0), (30, .aload 4, 32, 0, 0, 0), (32, .getfield 108, 35, 4, 1, 0), (35, .iconst 2, 36, 2, 0, 0), (36, .irem, 37, 0, 0, 0), (37, .ifCond .ne 13, 40, 50, 0, 0), (40, .aload 4, 42, 0, 0, 0), (42, .getfield 108, 45, 4, 1, 0), (45, .bipush 16, 47, 16, 0, 0), (47, .if_icmp .le 9, 50, 56, 0, 0), (50, .aload_n 0, 51, 0, 0, 0), (51, .iconst 5, 52, 5, 0, 0), (52, .invokevirtual 87, 55, 10, 2, 0), (55, .ireturn, 56, 0, 0, 0), (56, .iconst 0, 57, 0, 0, 0), (57, .istore 5, 59, 0, 0, 0), (59, .iload 5, 61, 0, 0, 0), (61, .iconst 1, 62, 1, 0, 0), (62, .iadd, 63, 0, 0, 0), (63, .aload 4, 65, 0, 0, 0), (65, .getfield 108, 68, 4, 1, 0), (68, .if_icmp .ge 54, 71, 122, 0, 0), (71, .aload 4, 73, 0, 0, 0), (73, .getfield 99, 76, 4, 0, 0), (76, .iload 5, 78, 0, 0, 0), (78, .iconst 1, 79, 1, 0, 0), (79, .iadd, 80, 0, 0, 0), (80, .iaload, 81, 0, 0, 0), (81, .istore 6, 83, 0, 0, 0), (83, .aload 4, 85, 0, 0, 0), (85, .getfield 99, 88, 4, 0, 0), (88, .iload 5, 90, 0, 0, 0), (90, .iaload, 91, 0, 0, 0), (91, .invokestatic 179, 94, 51, 1, 0), (94, .ifCond .eq 16, 97, 110, 0, 0), (97, .iload 6, 99, 0, 0, 0), (99, .iconst 1, 100, 1, 0, 0), (100, .if_icmp .lt 10, 103, 110, 0, 0), (103, .iload 6, 105, 0, 0, 0), (105, .bipush 15, 107, 15, 0, 0), (107, .if_icmp .le 9, 110, 116, 0, 0), (110, .aload_n 0, 111, 0, 0, 0), (111, .iconst 3, 112, 3, 0, 0), (112, .invokevirtual 87, 115, 10, 2, 0), (115, .ireturn, 116, 0, 0, 0), (116, .iinc 5 2, 119, 2, 0, 0), (119, .goto (-60), 122, 59, 0, 0), (122, .iconst 0, 123, 0, 0, 0), (123, .ireturn, 124, 0, 0, 0)]
theorem ok_T_refusalOfPairs : am_okM 98 cd_T_refusalOfPairs := by unfold am_okM; rw [am_m_98]; decide +kernel
/-- ThingsThrown$Kinds.fitting(LThingsThrown$Sheet;)I -/
abbrev n_K_fitting : Nat := 99
def cd_K_fitting : List Am_E := [(0, .iconst 0, 1, 0, 0, 0), (1, .istore_n 1, 2, 0, 0, 0), (2, .iconst 0, 3, 0, 0, 0), (3, .istore_n 2, 4, 0, 0, 0), (4, .iload_n 2, 5, 0, 0, 0), (5, .bipush 6, 7, 6, 0, 0), (7, .if_icmp .ge 23, 10, 30, 0, 0), (10, .iload_n 2, 11, 0, 0, 0), (11, .aload_n 0, 12, 0, 0, 0), (12, .invokestatic 37, 15, 100, 2, 0), (15, .ifCond .eq 9, 18, 24, 0, 0), (18, .iload_n 1, 19, 0, 0, 0), (19, .iconst 1, 20, 1, 0, 0), (20, .iload_n 2, 21, 0, 0, 0), (21, .ishl, 22, 0, 0, 0), (22, .ior, 23, 0, 0, 0), (23, .istore_n 1, 24, 0, 0, 0), (24, .iinc 2 1, 27, 1, 0, 0), (27, .goto (-23), 30, 4, 0, 0), (30, .iload_n 1, 31, 0, 0, 0), (31, .ireturn, 32, 0, 0, 0)]
theorem ok_K_fitting : am_okM 99 cd_K_fitting := by unfold am_okM; rw [am_m_99]; decide +kernel
/-- ThingsThrown$Kinds.fits(ILThingsThrown$Sheet;)Z -/
abbrev n_K_fits : Nat := 100
def cd_K_fits : List Am_E := [(0, .iconst 0, 1, 0, 0, 0), (1, .istore_n 2, 2, 0, 0, 0), (2, .iload_n 2, 3, 0, 0, 0), (3, .iconst 1, 4, 1, 0, 0), (4, .iadd, 5, 0, 0, 0), (5, .aload_n 1, 6, 0, 0, 0), (6, .getfield 41, 9, 4, 1, 0), (9, .if_icmp .ge 32, 12, 41, 0, 0), (12, .iload_n 0, 13, 0, 0, 0), (13, .aload_n 1, 14, 0, 0, 0), (14, .getfield 47, 17, 4, 0, 0), (17, .iload_n 2, 18, 0, 0, 0), (18, .iaload, 19, 0, 0, 0), (19, .invokestatic 34, 22, 46, 2, 0), (22, .aload_n 1, 23, 0, 0, 0), (23, .getfield 47, 26, 4, 0, 0), (26, .iload_n 2, 27, 0, 0, 0), (27, .iconst 1, 28, 1, 0, 0), (28, .iadd, 29, 0, 0, 0), (29, .iaload, 30, 0, 0, 0), (30, .if_icmp .eq 5, 33, 35, 0, 0), (33, .iconst 0, 34, 0, 0, 0), (34, .ireturn, 35, 0, 0, 0), (35, .iinc 2 2, 38, 2, 0, 0), (38, .goto (-36), 41, 2, 0, 0), (41, .iconst 1, 42, 1, 0, 0), (42, .ireturn, 43, 0, 0, 0)]
theorem ok_K_fits : am_okM 100 cd_K_fits := by unfold am_okM; rw [am_m_100]; decide +kernel
/-- ThingsThrown.next(II)I -/
abbrev n_T_next : Nat := 101
def cd_T_next : List Am_E := [(0, .aload_n 0, 1, 0, 0, 0), (1, .iload_n 1, 2, 0, 0, 0), (2, .iload_n 2, 3, 0, 0, 0), (3, .invokevirtual 265, 6, 98, 3, 0), (6, .istore_n 3, 7, 0, 0, 0), (7, .iload_n 3, 8, 0, 0, 0), (8, .ifCond .eq 5, 11, 13, 0, 0), (11, .iload_n 3, 12, 0, 0, 0), (12, .ireturn, 13, 0, 0, 0), (13, .aload_n 0, 14, 0, 0, 0), (14, .getfield 11, 17, 0, 0, 0), (17, .iload_n 2, 18, 0, 0, 0), (18, .aaload, 19, 0, 0, 0), (19, .invokestatic 268, 22, 99, 1, 0), (22, .istore 4, 24, 0, 0, 0), (24, .iload 4, 26, 0, 0, 0), (26, .ifCond .ne 6, 29, 32, 0, 0), (29, .bipush (-9), 31, 9, 1, 0), (31, .ireturn, 32, 0, 0, 0), (32, .iload 4, 34, 0, 0, 0), (34, .invokestatic 271, 37, 102, 1, 0), (37, .istore 5, 39, 0, 0, 0), (39, .aload_n 0, 40, 0, 0, 0), (40, .iload 4, 42, 0, 0, 0), (42, .iload 5, 44, 0, 0, 0), (44, .invokestatic 274, 47, 103, 2, 0), (47, .invokevirtual 102, 50, 17, 2, 0), (50, .pop, 51, 0, 0, 0), (51, .iload 5, 53, 0, 0, 0), (53, .ireturn, 54, 0, 0, 0)]
theorem ok_T_next : am_okM 101 cd_T_next := by unfold am_okM; rw [am_m_101]; decide +kernel
/-- ThingsThrown$Kinds.heightToTry(I)I -/
abbrev n_K_heightToTry : Nat := 102
def cd_K_heightToTry : List Am_E := [(0, .iconst 1, 1, 1, 0, 0), (1, .istore_n 1, 2, 0, 0, 0), (2, .iconst 2, 3, 2, 0, 0), (3, .istore_n 2, 4, 0, 0, 0), (4, .iload_n 2, 5, 0, 0, 0), (5, .bipush 7, 7, 7, 0, 0), (7, .if_icmp .gt 24, 10, 31, 0, 0), (10, .iload_n 0, 11, 0, 0, 0), (11, .iload_n 2, 12, 0, 0, 0), (12, .invokestatic 50, 15, 103, 2, 0), (15, .iload_n 0, 16, 0, 0, 0), (16, .iload_n 1, 17, 0, 0, 0), (17, .invokestatic 50, 20, 103, 2, 0), (20, .if_icmp .ge 5, 23, 25, 0, 0), (23, .iload_n 2, 24, 0, 0, 0), (24, .istore_n 1, 25, 0, 0, 0), (25, .iinc 2 1, 28, 1, 0, 0), (28, .goto (-24), 31, 4, 0, 0), (31, .iload_n 1, 32, 0, 0, 0), (32, .ireturn, 33, 0, 0, 0)]
theorem ok_K_heightToTry : am_okM 102 cd_K_heightToTry := by unfold am_okM; rw [am_m_102]; decide +kernel
/-- ThingsThrown$Kinds.greatestPart(II)I -/
abbrev n_K_greatestPart : Nat := 103
def cd_K_greatestPart : List Am_E := [(0, .iconst 0, 1, 0, 0, 0), (1, .istore_n 2, 2, 0, 0, 0), (2, .iconst 0, 3, 0, 0, 0), (3, .istore_n 3, 4, 0, 0, 0), (4, .iload_n 3, 5, 0, 0, 0), (5, .bipush 6, 7, 6, 0, 0), (7, .if_icmp .ge 24, 10, 31, 0, 0), (10, .iload_n 2, 11, 0, 0, 0), (11, .iload_n 0, 12, 0, 0, 0), (12, .iload_n 1, 13, 0, 0, 0), (13, .iload_n 3, 14, 0, 0, 0), (14, .iload_n 1, 15, 0, 0, 0), (15, .invokestatic 34, 18, 46, 2, 0), (18, .invokestatic 53, 21, 104, 3, 0), (21, .invokestatic 28, 24, 9002, 0, 0), (24, .istore_n 2, 25, 0, 0, 0), (25, .iinc 3 1, 28, 1, 0, 0), (28, .goto (-24), 31, 4, 0, 0), (31, .iload_n 2, 32, 0, 0, 0), (32, .ireturn, 33, 0, 0, 0)]
theorem ok_K_greatestPart : am_okM 103 cd_K_greatestPart := by unfold am_okM; rw [am_m_103]; decide +kernel
/-- ThingsThrown$Kinds.alike(III)I -/
abbrev n_K_alike : Nat := 104
def cd_K_alike : List Am_E := [(0, .iconst 0, 1, 0, 0, 0), (1, .istore_n 3, 2, 0, 0, 0), (2, .iconst 0, 3, 0, 0, 0), (3, .istore 4, 5, 0, 0, 0), (5, .iload 4, 7, 0, 0, 0), (7, .bipush 6, 9, 6, 0, 0), (9, .if_icmp .ge 31, 12, 40, 0, 0), (12, .iload_n 0, 13, 0, 0, 0), (13, .iload 4, 15, 0, 0, 0), (15, .ishr, 16, 0, 0, 0), (16, .iconst 1, 17, 1, 0, 0), (17, .iand, 18, 0, 0, 0), (18, .ifCond .eq 16, 21, 34, 0, 0), (21, .iload 4, 23, 0, 0, 0), (23, .iload_n 1, 24, 0, 0, 0), (24, .invokestatic 34, 27, 46, 2, 0), (27, .iload_n 2, 28, 0, 0, 0), (28, .if_icmp .ne 6, 31, 34, 0, 0), (31, .iinc 3 1, 34, 1, 0, 0), (34, .iinc 4 1, 37, 1, 0, 0), (37, .goto (-32), 40, 5, 0, 0), (40, .iload_n 3, 41, 0, 0, 0), (41, .ireturn, 42, 0, 0, 0)]
theorem ok_K_alike : am_okM 104 cd_K_alike := by unfold am_okM; rw [am_m_104]; decide +kernel
/-- ThingsThrown.duel(I)I -/
abbrev n_T_duel : Nat := 105
def cd_T_duel : List Am_E := [(0, .aload_n 0, 1, 0, 0, 0), (1, .getfield 28, 4, 0, 3, 0), (4, .getfield 148, 7, 6, 0, 0), (7, .ifCond .ne 6, 10, 13, 0, 0), (10, .bipush (-4), 12, 4, 1, 0), (12, .ireturn, 13, 0, 0, 0), (13, .iload_n 1, 14, 0, 0, 0), (14, .ifCond .lt 8, 17, 22, 0, 0), (17, .iload_n 1, 18, 0, 0, 0), (18, .iconst 2, 19, 2, 0, 0), (19, .if_icmp .le 5, 22, 24, 0, 0), (22, .iconst (-1), 23, 1, 1, 0), (23, .ireturn, 24, 0, 0, 0), (24, .aload_n 0, 25, 0, 0, 0), (25, .aload_n 0, 26, 0, 0, 0), (26, .getfield 48, 29, 0, 6, 0), (29, .aload_n 0, 30, 0, 0, 0), (30, .getfield 35, 33, 0, 4, 0), (33, .getfield 166, 36, 2, 0, 0), (36, .iload_n 1, 37, 0, 0, 0), (37, .invokevirtual 277, 40, 106, 3, 3), (40, .invokevirtual 102, 43, 17, 2, 0), (43, .ireturn, 44, 0, 0, 0)]
theorem ok_T_duel : am_okM 105 cd_T_duel := by unfold am_okM; rw [am_m_105]; decide +kernel
/-- ThingsThrown$Outlook.bestByTurns(II)I -/
abbrev n_O_bestByTurns : Nat := 106
def cd_O_bestByTurns : List Am_E := [(0, .aload_n 0, 1, 0, 0, 0), (1, .iload_n 1, 2, 0, 0, 0), (2, .iconst 2, 3, 2, 0, 0), (3, .iload_n 2, 4, 0, 0, 0), (4, .imul, 5, 0, 0, 0), (5, .invokevirtual 84, 8, 107, 3, 3), (8, .ireturn, 9, 0, 0, 0)]
theorem ok_O_bestByTurns : am_okM 106 cd_O_bestByTurns := by unfold am_okM; rw [am_m_106]; decide +kernel
/-- ThingsThrown$Outlook.bestFrom(II)I -/
abbrev n_O_bestFrom : Nat := 107
def cd_O_bestFrom : List Am_E := [(0, .iload_n 2, 1, 0, 0, 0), (1, .ifCond .gt 12, 4, 13, 0, 0), (4, .aload_n 0, 5, 0, 0, 0), (5, .getfield 22, 8, 3, 0, 0), (8, .iload_n 1, 9, 0, 0, 0), (9, .invokevirtual 87, 12, 108, 2, 6), (12, .ireturn, 13, 0, 0, 0), (13, .iload_n 2, 14, 0, 0, 0), (14, .iconst 2, 15, 2, 0, 0), (15, .irem, 16, 0, 0, 0), (16, .ifCond .ne 7, 19, 23, 0, 0), (19, .iconst 1, 20, 1, 0, 0), (20, .goto 4, 23, 24, 0, 0), (23, .iconst 0, 24, 0, 0, 0), (24, .istore_n 3, 25, 0, 0, 0), (25, .aload_n 0, 26, 0, 0, 0), (26, .getfield 22, 29, 3, 0, 0), (29, .iload_n 1, 30, 0, 0, 0), (30, .invokevirtual 31, 33, 79, 2, 6), (33, .istore 4, 35, 0, 0, 0), (35, .aload_n 0, 36, 0, 0, 0), (36, .getfield 22, 39, 3, 0, 0), (39, .iload 4, 41, 0, 0, 0), (41, .invokevirtual 77, 44, 75, 2, 6), (44, .istore 5, 46, 0, 0, 0), (46, .iload 5, 48, 0, 0, 0), (48, .ifCond .ne 25, 51, 73, 0, 0), (51, .aload_n 0, 52, 0, 0, 0), (52, .getfield 22, 55, 3, 0, 0), (55, .iload 4, 57, 0, 0, 0), (57, .invokevirtual 87, 60, 108, 2, 6), (60, .iload_n 3, 61, 0, 0, 0), (61, .ifCond .eq 8, 64, 69, 0, 0), (64, .bipush (-100), 66, 100, 1, 0), (66, .goto 5, 69, 71, 0, 0), (69, .bipush 100, 71, 100, 0, 0), (71, .iadd, 72, 0, 0, 0), (72, .ireturn, 73, 0, 0, 0), (73, .iload_n 3, 74, 0, 0, 0), (74, .ifCond .eq 8, 77, 82, 0, 0), (77, .ldc 90, 79, 2147483648, 1, 0), (79, .goto 5, 82, 84, 0, 0), (82, .ldc 91, 84, 2147483647, 0, 0), (84, .istore 6, 86, 0, 0, 0), (86, .iconst 1, 87, 1, 0, 0), (87, .istore 7, 89, 0, 0, 0), (89, .iload 7, 91, 0, 0, 0), (91, .bipush 7, 93, 7, 0, 0), (93, .if_icmp .gt 62, 96, 155, 0, 0), (96, .iload 5, 98, 0, 0, 0), (98, .iload 7, 100, 0, 0, 0), (100, .ishr, 101, 0, 0, 0), (101, .iconst 1, 102, 1, 0, 0), (102, .iand, 103, 0, 0, 0), (103, .ifCond .eq 46, 106, 149, 0, 0), (106, .aload_n 0, 107, 0, 0, 0), (107, .aload_n 0, 108, 0, 0, 0), (108, .getfield 22, 111, 3, 0, 0), (111, .iload 4, 113, 0, 0, 0), (113, .iload 7, 115, 0, 0, 0), (115, .invokevirtual 44, 118, 57, 3, 6), (118, .iload_n 2, 119, 0, 0, 0), (119, .iconst 1, 120, 1, 0, 0), (120, .isub, 121, 0, 0, 0), (121, .invokevirtual 84, 124, 107, 3, 3), (124, .istore 8, 126, 0, 0, 0), (126, .iload_n 3, 127, 0, 0, 0), (127, .ifCond .eq 13, 130, 140, 0, 0), (130, .iload 6, 132, 0, 0, 0), (132, .iload 8, 134, 0, 0, 0), (134, .invokestatic 92, 137, 9002, 0, 0), (137, .goto 10, 140, 147, 0, 0), (140, .iload 6, 142, 0, 0, 0), (142, .iload 8, 144, 0, 0, 0), (144, .invokestatic 97, 147, 9003, 0, 0), (147, .istore 6, 149, 0, 0, 0), (149, .iinc 7 1, 152, 1, 0, 0), (152, .goto (-63), 155, 89, 0, 0), (155, .iload 6, 157, 0, 0, 0), (157, .ireturn, 158, 0, 0, 0)]
theorem ok_O_bestFrom : am_okM 107 cd_O_bestFrom := by unfold am_okM; rw [am_m_107]; decide +kernel
/-- ThingsThrown$Troupe.dueTogether(I)I -/
abbrev n_P_dueTogether : Nat := 108
def cd_P_dueTogether : List Am_E := [(0, .iconst 0, 1, 0, 0, 0), (1, .istore_n 2, 2, 0, 0, 0), (2, .iconst 0, 3, 0, 0, 0), (3, .istore_n 3, 4, 0, 0, 0), (4, .iload_n 3, 5, 0, 0, 0), (5, .aload_n 0, 6, 0, 0, 0), (6, .getfield 9, 9, 6, 0, 0), (9, .if_icmp .ge 17, 12, 26, 0, 0), (12, .iload_n 2, 13, 0, 0, 0), (13, .iload_n 1, 14, 0, 0, 0), (14, .iload_n 3, 15, 0, 0, 0), (15, .invokestatic 19, 18, 33, 2, 0), (18, .iadd, 19, 0, 0, 0), (19, .istore_n 2, 20, 0, 0, 0), (20, .iinc 3 1, 23, 1, 0, 0), (23, .goto (-19), 26, 4, 0, 0), (26, .iload_n 2, 27, 0, 0, 0), (27, .ireturn, 28, 0, 0, 0)]
theorem ok_P_dueTogether : am_okM 108 cd_P_dueTogether := by unfold am_okM; rw [am_m_108]; decide +kernel
/-- ThingsThrown.odds(II)I -/
abbrev n_T_odds : Nat := 109
def cd_T_odds : List Am_E := [(0, .aload_n 0, 1, 0, 0, 0), (1, .iload_n 1, 2, 0, 0, 0), (2, .iload_n 2, 3, 0, 0, 0), (3, .invokevirtual 280, 6, 110, 3, 0), (6, .istore_n 3, 7, 0, 0, 0), (7, .iload_n 3, 8, 0, 0, 0), (8, .ifCond .eq 5, 11, 13, 0, 0), (11, .iload_n 3, 12, 0, 0, 0), (12, .ireturn, 13, 0, 0, 0), (13, .aload_n 0, 14, 0, 0, 0), (14, .getfield 55, 17, 0, 7, 0), (17, .aload_n 0, 18, 0, 0, 0), (18, .getfield 35, 21, 0, 4, 0), (21, .getfield 166, 24, 2, 0, 0), (24, .aload_n 0, 25, 0, 0, 0), (25, .getfield 11, 28, 0, 0, 0), (28, .iload_n 1, 29, 0, 0, 0), (29, .aaload, 30, 0, 0, 0), (30, .iload_n 2, 31, 0, 0, 0), (31, .invokevirtual 283, 34, 111, 4, 1), (34, .lstore 4, 36, 0, 0, 0), (36, .aload_n 0, 37, 0, 0, 0), (37, .lload 4, 39, 0, 0, 0), (39, .aload_n 0, 40, 0, 0, 0), (40, .getfield 11, 43, 0, 0, 0), (43, .iload_n 1, 44, 0, 0, 0), (44, .aaload, 45, 0, 0, 0), (45, .getfield 108, 48, 4, 1, 0), (48, .invokestatic 287, 51, 113, 1, 0), (51, .invokevirtual 255, 54, 93, 3, 0), (54, .ireturn, 55, 0, 0, 0)]
theorem ok_T_odds : am_okM 109 cd_T_odds := by unfold am_okM; rw [am_m_109]; decide +kernel
/-- ThingsThrown.refusalOfChances(II)I -/
abbrev n_T_refusalOfChances : Nat := 110
def cd_T_refusalOfChances : List Am_E := [(0, .aload_n 0, 1, 0, 0, 0), (1, .getfield 28, 4, 0, 3, 0), (4, .getfield 148, 7, 6, 0, 0), (7, .ifCond .eq 15, 10, 22, 0, 0), (10, .iload_n 2, 11, 0, 0, 0), (11, .ifCond .lt 9, 14, 20, 0, 0), (14, .iload_n 2, 15, 0, 0, 0), (15, .bipush 12, 17, 12, 0, 0), (17, .if_icmp .le 5, 20, 22, 0, 0), (20, .iconst (-1), 21, 1, 1, 0), (21, .ireturn, 22, 0, 0, 0), (22, .aload_n 0, 23, 0, 0, 0), (23, .iload_n 1, 24, 0, 0, 0), (24, .iconst 1, 25, 1, 0, 0), (25, .bipush 6, 27, 6, 0, 0), (27, .invokevirtual 225, 30, 77, 4, 0), (30, .ireturn, 31, 0, 0, 0)]
theorem ok_T_refusalOfChances : am_okM 110 cd_T_refusalOfChances := by unfold am_okM; rw [am_m_110]; decide +kernel
/-- ThingsThrown$Chances.weightOfAll(ILThingsThrown$Sheet;I)J -/
abbrev n_C_weightOfAll : Nat := 111
def cd_C_weightOfAll : List Am_E := [(0, .aload_n 0, 1, 0, 0, 0), (1, .iload_n 1, 2, 0, 0, 0), (2, .aload_n 2, 3, 0, 0, 0), (3, .iconst 0, 4, 0, 0, 0), (4, .iload_n 3, 5, 0, 0, 0), (5, .iconst 0, 6, 0, 0, 0), (6, .invokevirtual 17, 9, 112, 6, 1), (9, .lreturn, 10, 0, 0, 0)]
theorem ok_C_weightOfAll : am_okM 111 cd_C_weightOfAll := by unfold am_okM; rw [am_m_111]; decide +kernel
/-- ThingsThrown$Chances.weightFrom(ILThingsThrown$Sheet;IIZ)J -/
abbrev n_C_weightFrom : Nat := 112
def cd_C_weightFrom : List Am_E := [(0, .iload_n 3, 1, 0, 0, 0), (1, .aload_n 2, 2, 0, 0, 0), (2, .getfield 21, 5, 4, 1, 0), (5, .if_icmp .ge 9, 8, 14, 0, 0), (8, .iload_n 3, 9, 0, 0, 0), (9, .bipush 6, 11, 6, 0, 0), (11, .if_icmp .lt 14, 14, 25, 0, 0), (14, .iload 5, 16, 0, 0, 0), (16, .ifCond .eq 7, 19, 23, 0, 0), (19, .lconst 0, 20, 0, 0, 0), (20, .goto 4, 23, 24, 0, 0), (23, .lconst 1, 24, 1, 0, 0), (24, .lreturn, 25, 0, 0, 0), (25, .aload_n 0, 26, 0, 0, 0), (26, .getfield 9, 29, 1, 0, 0), (29, .iload_n 1, 30, 0, 0, 0), (30, .invokevirtual 27, 33, 79, 2, 6), (33, .istore 6, 35, 0, 0, 0), (35, .aload_n 2, 36, 0, 0, 0), (36, .getfield 33, 39, 4, 0, 0), (39, .iload_n 3, 40, 0, 0, 0), (40, .iaload, 41, 0, 0, 0), (41, .istore 7, 43, 0, 0, 0), (43, .iload 7, 45, 0, 0, 0), (45, .iconst 1, 46, 1, 0, 0), (46, .iadd, 47, 0, 0, 0), (47, .bipush 7, 49, 7, 0, 0), (49, .invokestatic 37, 52, 9003, 0, 0), (52, .istore 8, 54, 0, 0, 0), (54, .iload 5, 56, 0, 0, 0), (56, .ifCond .eq 17, 59, 73, 0, 0), (59, .aload_n 2, 60, 0, 0, 0), (60, .getfield 21, 63, 4, 1, 0), (63, .iload_n 3, 64, 0, 0, 0), (64, .isub, 65, 0, 0, 0), (65, .iconst 1, 66, 1, 0, 0), (66, .isub, 67, 0, 0, 0), (67, .invokestatic 43, 70, 113, 1, 0), (70, .goto 4, 73, 74, 0, 0), (73, .lconst 0, 74, 0, 0, 0), (74, .lstore 9, 76, 0, 0, 0), (76, .lconst 0, 77, 0, 0, 0), (77, .lstore 11, 79, 0, 0, 0), (79, .aload_n 0, 80, 0, 0, 0), (80, .getfield 9, 83, 1, 0, 0), (83, .iload 6, 85, 0, 0, 0), (85, .iload 7, 87, 0, 0, 0), (87, .invokevirtual 47, 90, 52, 3, 6), (90, .ifCond .eq 41, 93, 131, 0, 0), (93, .lload 11, 95, 0, 0, 0), (95, .bipush 12, 97, 12, 0, 0), (97, .iload 4, 99, 0, 0, 0), (99, .isub, 100, 0, 0, 0), (100, .i2l, 101, 0, 0, 0), (101, .lload 9, 103, 0, 0, 0), (103, .aload_n 0, 104, 0, 0, 0), (104, .aload_n 0, 105, 0, 0, 0), (105, .getfield 9, 108, 1, 0, 0), (108, .iload 6, 110, 0, 0, 0), (110, .iload 7, 112, 0, 0, 0), (112, .invokevirtual 51, 115, 57, 3, 6), (115, .aload_n 2, 116, 0, 0, 0), (116, .iload_n 3, 117, 0, 0, 0), (117, .iconst 1, 118, 1, 0, 0), (118, .iadd, 119, 0, 0, 0), (119, .iload 4, 121, 0, 0, 0), (121, .iload 5, 123, 0, 0, 0), (123, .invokevirtual 17, 126, 112, 6, 1), (126, .ladd, 127, 0, 0, 0), (127, .lmul, 128, 0, 0, 0), (128, .ladd, 129, 0, 0, 0), (129, .lstore 11, 131, 0, 0, 0), (131, .aload_n 0, 132, 0, 0, 0), (132, .getfield 9, 135, 1, 0, 0), (135, .iload 6, 137, 0, 0, 0), (137, .iload 8, 139, 0, 0, 0), (139, .invokevirtual 47, 142, 52, 3, 6), (142, .ifCond .eq 38, 145, 180, 0, 0), (145, .lload 11, 147, 0, 0, 0), (147, .iload 4, 149, 0, 0, 0), (149, .i2l, 150, 0, 0, 0), (150, .lload 9, 152, 0, 0, 0), (152, .aload_n 0, 153, 0, 0, 0), (153, .aload_n 0, 154, 0, 0, 0), (154, .getfield 9, 157, 1, 0, 0), (157, .iload 6, 159, 0, 0, 0), (159, .iload 8, 161, 0, 0, 0), (161, .invokevirtual 51, 164, 57, 3, 6), (164, .aload_n 2, 165, 0, 0, 0), (165, .iload_n 3, 166, 0, 0, 0), (166, .iconst 1, 167, 1, 0, 0), (167, .iadd, 168, 0, 0, 0), (168, .iload 4, 170, 0, 0, 0), (170, .iload 5, 172, 0, 0, 0), (172, .invokevirtual 17, 175, 112, 6, 1), (175, .ladd, 176, 0, 0, 0), (176, .lmul, 177, 0, 0, 0), (177, .ladd, 178, 0, 0, 0), (178, .lstore 11, 180, 0, 0, 0), (180, .lload 11, 182, 0, 0, 0), (182, .lreturn, 183, 0, 0, 0)]
theorem ok_C_weightFrom : am_okM 112 cd_C_weightFrom := by unfold am_okM; rw [am_m_112]; decide +kernel
/-- ThingsThrown$Chances.weight(I)J -/
abbrev n_C_weight : Nat := 113
def cd_C_weight : List Am_E := [(0, .lconst 1, 1, 1, 0, 0), (1, .lstore_n 1, 2, 0, 0, 0), (2, .iconst 0, 3, 0, 0, 0), (3, .istore_n 3, 4, 0, 0, 0), (4, .iload_n 3, 5, 0, 0, 0), (5, .iload_n 0, 6, 0, 0, 0), (6, .if_icmp .ge 15, 9, 21, 0, 0), (9, .lload_n 1, 10, 0, 0, 0), (10, .ldc2_w 15, 13, 12, 0, 0), (13, .lmul, 14, 0, 0, 0), (14, .lstore_n 1, 15, 0, 0, 0), (15, .iinc 3 1, 18, 1, 0, 0), (18, .goto (-14), 21, 4, 0, 0), (21, .lload_n 1, 22, 0, 0, 0), (22, .lreturn, 23, 0, 0, 0)]
theorem ok_C_weight : am_okM 113 cd_C_weight := by unfold am_okM; rw [am_m_113]; decide +kernel
/-- ThingsThrown.mid(II)I -/
abbrev n_T_mid : Nat := 114
def cd_T_mid : List Am_E := [(0, .aload_n 0, 1, 0, 0, 0), (1, .iload_n 1, 2, 0, 0, 0), (2, .iload_n 2, 3, 0, 0, 0), (3, .invokevirtual 280, 6, 110, 3, 0), (6, .istore_n 3, 7, 0, 0, 0), (7, .iload_n 3, 8, 0, 0, 0), (8, .ifCond .eq 5, 11, 13, 0, 0), (11, .iload_n 3, 12, 0, 0, 0), (12, .ireturn, 13, 0, 0, 0), (13, .aload_n 0, 14, 0, 0, 0), (14, .getfield 55, 17, 0, 7, 0), (17, .aload_n 0, 18, 0, 0, 0), (18, .getfield 35, 21, 0, 4, 0), (21, .getfield 166, 24, 2, 0, 0), (24, .aload_n 0, 25, 0, 0, 0), (25, .getfield 11, 28, 0, 0, 0), (28, .iload_n 1, 29, 0, 0, 0), (29, .aaload, 30, 0, 0, 0), (30, .iload_n 2, 31, 0, 0, 0), (31, .invokevirtual 291, 34, 115, 4, 1), (34, .lstore 4, 36, 0, 0, 0), (36, .aload_n 0, 37, 0, 0, 0), (37, .lload 4, 39, 0, 0, 0), (39, .aload_n 0, 40, 0, 0, 0), (40, .getfield 11, 43, 0, 0, 0), (43, .iload_n 1, 44, 0, 0, 0), (44, .aaload, 45, 0, 0, 0), (45, .getfield 108, 48, 4, 1, 0), (48, .invokestatic 287, 51, 113, 1, 0), (51, .invokevirtual 255, 54, 93, 3, 0), (54, .ireturn, 55, 0, 0, 0)]
theorem ok_T_mid : am_okM 114 cd_T_mid := by unfold am_okM; rw [am_m_114]; decide +kernel
/-- ThingsThrown$Chances.weightOfMade(ILThingsThrown$Sheet;I)J -/
abbrev n_C_weightOfMade : Nat := 115
def cd_C_weightOfMade : List Am_E := [(0, .aload_n 0, 1, 0, 0, 0), (1, .iload_n 1, 2, 0, 0, 0), (2, .aload_n 2, 3, 0, 0, 0), (3, .iconst 0, 4, 0, 0, 0), (4, .iload_n 3, 5, 0, 0, 0), (5, .iconst 1, 6, 1, 0, 0), (6, .invokevirtual 17, 9, 112, 6, 1), (9, .lreturn, 10, 0, 0, 0)]
theorem ok_C_weightOfMade : am_okM 115 cd_C_weightOfMade := by unfold am_okM; rw [am_m_115]; decide +kernel
/-- ThingsThrown.lots(II)I -/
abbrev n_T_lots : Nat := 116
def cd_T_lots : List Am_E := [(0, .aload_n 0, 1, 0, 0, 0), (1, .getfield 28, 4, 0, 3, 0), (4, .getfield 148, 7, 6, 0, 0), (7, .ifCond .ne 6, 10, 13, 0, 0), (10, .bipush (-4), 12, 4, 1, 0), (12, .ireturn, 13, 0, 0, 0), (13, .iload_n 1, 14, 0, 0, 0), (14, .iconst 1, 15, 1, 0, 0), (15, .if_icmp .lt 21, 18, 36, 0, 0), (18, .iload_n 1, 19, 0, 0, 0), (19, .bipush 20, 21, 20, 0, 0), (21, .if_icmp .gt 15, 24, 36, 0, 0), (24, .iload_n 2, 25, 0, 0, 0), (25, .iconst 1, 26, 1, 0, 0), (26, .if_icmp .lt 10, 29, 36, 0, 0), (29, .iload_n 2, 30, 0, 0, 0), (30, .ldc_w 294, 33, 2147483647, 0, 0), (33, .if_icmp .lt 5, 36, 38, 0, 0), (36, .iconst (-1), 37, 1, 1, 0), (37, .ireturn, 38, 0, 0, 0), (38, .aload_n 0, 39, 0, 0, 0), (39, .getfield 35, 42, 0, 4, 0), (42, .getfield 204, 45, 2, 2, 0), (45, .iload_n 1, 46, 0, 0, 0), (46, .iadd, 47, 0, 0, 0), (47, .bipush 40, 49, 40, 0, 0), (49, .if_icmp .le 6, 52, 55, 0, 0), (52, .bipush (-2), 54, 2, 1, 0), (54, .ireturn, 55, 0, 0, 0), (55, .iload_n 2, 56, 0, 0, 0), (56, .i2l, 57, 0, 0, 0), (57, .lstore_n 3, 58, 0, 0, 0), (58, .iconst 0, 59, 0, 0, 0), (59, .istore 5, 61, 0, 0, 0), (61, .iload 5, 63, 0, 0, 0), (63, .iload_n 1, 64, 0, 0, 0), (64, .if_icmp .ge 25, 67, 89, 0, 0), (67, .lload_n 3, 68, 0, 0, 0), (68, .ldc2_w 295, 71, 48271, 0, 0), (71, .lmul, 72, 0, 0, 0), (72, .ldc2_w 297, 75, 2147483647, 0, 0), (75, .lrem, 76, 0, 0, 0), (76, .lstore_n 3, 77, 0, 0, 0), (77, .aload_n 0, 78, 0, 0, 0), (78, .lload_n 3, 79, 0, 0, 0), (79, .l2i, 80, 0, 0, 0), (80, .invokevirtual 299, 83, 117, 2, 0), (83, .iinc 5 1, 86, 1, 0, 0), (86, .goto (-25), 89, 61, 0, 0), (89, .aload_n 0, 90, 0, 0, 0), (90, .invokevirtual 191, 93, 61, 1, 0), (93, .ireturn, 94, 0, 0, 0)]
theorem ok_T_lots : am_okM 116 cd_T_lots := by unfold am_okM; rw [am_m_116]; decide +kernel
/-- ThingsThrown.enterByLot(I)V -/
abbrev n_T_enterByLot : Nat := 117
def cd_T_enterByLot : List Am_E := [(0, .aload_n 0, 1, 0, 0, 0), (1, .getfield 28, 4, 0, 3, 0), (4, .aload_n 0, 5, 0, 0, 0), (5, .getfield 35, 8, 0, 4, 0), (8, .getfield 166, 11, 2, 0, 0), (11, .invokevirtual 195, 14, 53, 2, 6), (14, .istore_n 2, 15, 0, 0, 0), (15, .iload_n 2, 16, 0, 0, 0), (16, .bipush (-9), 18, 9, 1, 0), (18, .if_icmp .ne 10, 21, 28, 0, 0), (21, .aload_n 0, 22, 0, 0, 0), (22, .invokevirtual 198, 25, 63, 1, 0), (25, .goto 40, 28, 65, 0, 0), (28, .iload_n 1, 29, 0, 0, 0), (29, .bipush 8, 31, 8, 0, 0), (31, .idiv, 32, 0, 0, 0), (32, .bipush 8, 34, 8, 0, 0), (34, .irem, 35, 0, 0, 0), (35, .bipush 7, 37, 7, 0, 0), (37, .if_icmp .ne 20, 40, 57, 0, 0), (40, .aload_n 0, 41, 0, 0, 0), (41, .iload_n 2, 42, 0, 0, 0), (42, .iload_n 1, 43, 0, 0, 0), (43, .aload_n 0, 44, 0, 0, 0), (44, .getfield 28, 47, 0, 3, 0), (47, .getfield 148, 50, 6, 0, 0), (50, .irem, 51, 0, 0, 0), (51, .invokevirtual 201, 54, 65, 3, 0), (54, .goto 11, 57, 65, 0, 0), (57, .aload_n 0, 58, 0, 0, 0), (58, .iload_n 1, 59, 0, 0, 0), (59, .bipush 7, 61, 7, 0, 0), (61, .irem, 62, 0, 0, 0), (62, .invokevirtual 355, 65, 118, 2, 0), (65, .return_, 66, 0, 0, 0)]
theorem ok_T_enterByLot : am_okM 117 cd_T_enterByLot := by unfold am_okM; rw [am_m_117]; decide +kernel
/-- ThingsThrown.enterThrowFrom(I)V -/
abbrev n_T_enterThrowFrom : Nat := 118
def cd_T_enterThrowFrom : List Am_E := [(0, .iconst 0, 1, 0, 0, 0), (1, .istore_n 2, 2, 0, 0, 0), (2, .iload_n 2, 3, 0, 0, 0), (3, .bipush 7, 5, 7, 0, 0), (5, .if_icmp .ge 42, 8, 47, 0, 0), (8, .iload_n 1, 9, 0, 0, 0), (9, .iload_n 2, 10, 0, 0, 0), (10, .iadd, 11, 0, 0, 0), (11, .bipush 7, 13, 7, 0, 0), (13, .irem, 14, 0, 0, 0), (14, .iconst 1, 15, 1, 0, 0), (15, .iadd, 16, 0, 0, 0), (16, .istore_n 3, 17, 0, 0, 0), (17, .aload_n 0, 18, 0, 0, 0), (18, .getfield 28, 21, 0, 3, 0), (21, .aload_n 0, 22, 0, 0, 0), (22, .getfield 35, 25, 0, 4, 0), (25, .getfield 166, 28, 2, 0, 0), (28, .iload_n 3, 29, 0, 0, 0), (29, .invokevirtual 182, 32, 52, 3, 6), (32, .ifCond .eq 9, 35, 41, 0, 0), (35, .aload_n 0, 36, 0, 0, 0), (36, .iload_n 3, 37, 0, 0, 0), (37, .invokevirtual 188, 40, 56, 2, 0), (40, .return_, 41, 0, 0, 0), (41, .iinc 2 1, 44, 1, 0, 0), (44, .goto (-42), 47, 2, 0, 0), (47, .aload_n 0, 48, 0, 0, 0), (48, .getfield 35, 51, 0, 4, 0), (51, .aload_n 0, 52, 0, 0, 0), (52, .getfield 35, 55, 0, 4, 0), (55, .getfield 166, 58, 2, 0, 0), (58, .bipush (-9), 60, 9, 1, 0), (60, .iconst 0, 61, 0, 0, 0), (61, .invokevirtual 345, 64, 59, 4, 2), (64, .return_, 65, 0, 0, 0)]
theorem ok_T_enterThrowFrom : am_okM 118 cd_T_enterThrowFrom := by unfold am_okM; rw [am_m_118]; decide +kernel
/-- ThingsThrown.asked()I -/
abbrev n_T_asked : Nat := 119
def cd_T_asked : List Am_E := [(0, .aload_n 0, 1, 0, 0, 0), (1, .getfield 67, 4, 0, 10, 0), (4, .ireturn, 5, 0, 0, 0)]
theorem ok_T_asked : am_okM 119 cd_T_asked := by unfold am_okM; rw [am_m_119]; decide +kernel
/-- ThingsThrown.upper()J -/
abbrev n_T_upper : Nat := 120
def cd_T_upper : List Am_E := [(0, .aload_n 0, 1, 0, 0, 0), (1, .getfield 70, 4, 0, 11, 0), (4, .lreturn, 5, 0, 0, 0)]
theorem ok_T_upper : am_okM 120 cd_T_upper := by unfold am_okM; rw [am_m_120]; decide +kernel
/-- ThingsThrown.lower()J -/
abbrev n_T_lower : Nat := 121
def cd_T_lower : List Am_E := [(0, .aload_n 0, 1, 0, 0, 0), (1, .getfield 74, 4, 0, 12, 0), (4, .lreturn, 5, 0, 0, 0)]
theorem ok_T_lower : am_okM 121 cd_T_lower := by unfold am_okM; rw [am_m_121]; decide +kernel
/-- ThingsThrown.count(I)I -/
abbrev n_T_count : Nat := 122
def cd_T_count : List Am_E := [(0, .iload_n 1, 1, 0, 0, 0), (1, .tableswitch 169 0 11 #[63, 71, 79, 87, 92, 107, 122, 130, 139, 148, 156, 164], 64, 0, 0, 0), (64, .aload_n 0, 65, 0, 0, 0), (65, .getfield 28, 68, 0, 3, 0), (68, .getfield 148, 71, 6, 0, 0), (71, .ireturn, 72, 0, 0, 0), (72, .aload_n 0, 73, 0, 0, 0), (73, .getfield 35, 76, 0, 4, 0), (76, .getfield 302, 79, 2, 1, 0), (79, .ireturn, 80, 0, 0, 0), (80, .aload_n 0, 81, 0, 0, 0), (81, .getfield 35, 84, 0, 4, 0), (84, .getfield 204, 87, 2, 2, 0), (87, .ireturn, 88, 0, 0, 0), (88, .aload_n 0, 89, 0, 0, 0), (89, .invokevirtual 191, 92, 61, 1, 0), (92, .ireturn, 93, 0, 0, 0), (93, .aload_n 0, 94, 0, 0, 0), (94, .getfield 28, 97, 0, 3, 0), (97, .aload_n 0, 98, 0, 0, 0), (98, .getfield 35, 101, 0, 4, 0), (101, .getfield 166, 104, 2, 0, 0), (104, .invokevirtual 195, 107, 53, 2, 6), (107, .ireturn, 108, 0, 0, 0), (108, .aload_n 0, 109, 0, 0, 0), (109, .getfield 28, 112, 0, 3, 0), (112, .aload_n 0, 113, 0, 0, 0), (113, .getfield 35, 116, 0, 4, 0), (116, .getfield 166, 119, 2, 0, 0), (119, .invokevirtual 305, 122, 108, 2, 6), (122, .ireturn, 123, 0, 0, 0), (123, .aload_n 0, 124, 0, 0, 0), (124, .getfield 35, 127, 0, 4, 0), (127, .invokevirtual 308, 130, 123, 1, 2), (130, .ireturn, 131, 0, 0, 0), (131, .aload_n 0, 132, 0, 0, 0), (132, .getfield 28, 135, 0, 3, 0), (135, .iconst 1, 136, 1, 0, 0), (136, .invokevirtual 310, 139, 124, 2, 6), (139, .ireturn, 140, 0, 0, 0), (140, .aload_n 0, 141, 0, 0, 0), (141, .getfield 28, 144, 0, 3, 0), (144, .iconst 3, 145, 3, 0, 0), (145, .invokevirtual 310, 148, 124, 2, 6), (148, .ireturn, 149, 0, 0, 0), (149, .aload_n 0, 150, 0, 0, 0), (150, .getfield 11, 153, 0, 0, 0), (153, .invokestatic 313, 156, 125, 1, 0), (156, .ireturn, 157, 0, 0, 0), (157, .aload_n 0, 158, 0, 0, 0), (158, .getfield 15, 161, 0, 1, 0), (161, .invokestatic 313, 164, 125, 1, 0), (164, .ireturn, 165, 0, 0, 0), (165, .aload_n 0, 166, 0, 0, 0), (166, .invokevirtual 317, 169, 126, 1, 0), (169, .ireturn, 170, 0, 0, 0), (170, .iconst (-1), 171, 1, 1, 0), (171, .ireturn, 172, 0, 0, 0)]
theorem ok_T_count : am_okM 122 cd_T_count := by unfold am_okM; rw [am_m_122]; decide +kernel
/-- ThingsThrown$Evening.throwsMade()I -/
abbrev n_E_throwsMade : Nat := 123
def cd_E_throwsMade : List Am_E := [(0, .iconst 0, 1, 0, 0, 0), (1, .istore_n 1, 2, 0, 0, 0), (2, .iconst 0, 3, 0, 0, 0), (3, .istore_n 2, 4, 0, 0, 0), (4, .iload_n 2, 5, 0, 0, 0), (5, .bipush 6, 7, 6, 0, 0), (7, .if_icmp .ge 18, 10, 25, 0, 0), (10, .iload_n 1, 11, 0, 0, 0), (11, .aload_n 0, 12, 0, 0, 0), (12, .getfield 21, 15, 2, 3, 0), (15, .iload_n 2, 16, 0, 0, 0), (16, .iaload, 17, 0, 0, 0), (17, .iadd, 18, 0, 0, 0), (18, .istore_n 1, 19, 0, 0, 0), (19, .iinc 2 1, 22, 1, 0, 0), (22, .goto (-18), 25, 4, 0, 0), (25, .iload_n 1, 26, 0, 0, 0), (26, .ireturn, 27, 0, 0, 0)]
theorem ok_E_throwsMade : am_okM 123 cd_E_throwsMade := by unfold am_okM; rw [am_m_123]; decide +kernel
/-- ThingsThrown$Troupe.howManyOf(I)I -/
abbrev n_P_howManyOf : Nat := 124
def cd_P_howManyOf : List Am_E := [(0, .iconst 0, 1, 0, 0, 0), (1, .istore_n 2, 2, 0, 0, 0), (2, .iconst 0, 3, 0, 0, 0), (3, .istore_n 3, 4, 0, 0, 0), (4, .iload_n 3, 5, 0, 0, 0), (5, .aload_n 0, 6, 0, 0, 0), (6, .getfield 9, 9, 6, 0, 0), (9, .if_icmp .ge 25, 12, 34, 0, 0), (12, .aload_n 0, 13, 0, 0, 0), (13, .getfield 15, 16, 6, 1, 0), (16, .iload_n 3, 17, 0, 0, 0), (17, .iaload, 18, 0, 0, 0), (18, .iload_n 1, 19, 0, 0, 0), (19, .invokestatic 33, 22, 44, 2, 0), (22, .ifCond .eq 6, 25, 28, 0, 0), (25, .iinc 2 1, 28, 1, 0, 0), (28, .iinc 3 1, 31, 1, 0, 0), (31, .goto (-27), 34, 4, 0, 0), (34, .iload_n 2, 35, 0, 0, 0), (35, .ireturn, 36, 0, 0, 0)]
theorem ok_P_howManyOf : am_okM 124 cd_P_howManyOf := by unfold am_okM; rw [am_m_124]; decide +kernel
/-- ThingsThrown.sheetsThere([LThingsThrown$Sheet;)I -/
abbrev n_T_sheetsThere : Nat := 125
def cd_T_sheetsThere : List Am_E := [(0, .iconst 0, 1, 0, 0, 0), (1, .istore_n 1, 2, 0, 0, 0), (2, .iconst 0, 3, 0, 0, 0), (3, .istore_n 2, 4, 0, 0, 0), (4, .iload_n 2, 5, 0, 0, 0), (5, .aload_n 0, 6, 0, 0, 0), (6, .arraylength, 7, 0, 0, 0), (7, .if_icmp .ge 21, 10, 28, 0, 0), (10, .aload_n 0, 11, 0, 0, 0), (11, .iload_n 2, 12, 0, 0, 0), (12, .aaload, 13, 0, 0, 0), (13, .invokevirtual 111, 16, 15, 1, 4), (16, .ifCond .ne 6, 19, 22, 0, 0), (19, .iinc 1 1, 22, 1, 0, 0), (22, .iinc 2 1, 25, 1, 0, 0), (25, .goto (-21), 28, 4, 0, 0), (28, .iload_n 1, 29, 0, 0, 0), (29, .ireturn, 30, 0, 0, 0)]
theorem ok_T_sheetsThere : am_okM 125 cd_T_sheetsThere := by unfold am_okM; rw [am_m_125]; decide +kernel
/-- ThingsThrown.skiesKept()I -/
abbrev n_T_skiesKept : Nat := 126
def cd_T_skiesKept : List Am_E := [(0, .iconst 0, 1, 0, 0, 0), (1, .istore_n 1, 2, 0, 0, 0), (2, .iconst 0, 3, 0, 0, 0), (3, .istore_n 2, 4, 0, 0, 0), (4, .iload_n 2, 5, 0, 0, 0), (5, .iconst 3, 6, 3, 0, 0), (6, .if_icmp .ge 24, 9, 30, 0, 0), (9, .aload_n 0, 10, 0, 0, 0), (10, .getfield 39, 13, 0, 5, 0), (13, .iload_n 2, 14, 0, 0, 0), (14, .aaload, 15, 0, 0, 0), (15, .invokevirtual 216, 18, 60, 1, 2), (18, .ifCond .ne 6, 21, 24, 0, 0), (21, .iinc 1 1, 24, 1, 0, 0), (24, .iinc 2 1, 27, 1, 0, 0), (27, .goto (-23), 30, 4, 0, 0), (30, .iload_n 1, 31, 0, 0, 0), (31, .ireturn, 32, 0, 0, 0)]
theorem ok_T_skiesKept : am_okM 126 cd_T_skiesKept := by unfold am_okM; rw [am_m_126]; decide +kernel
/-- ThingsThrown.finding()I -/
abbrev n_T_finding : Nat := 127
def cd_T_finding : List Am_E := [(0, .aload_n 0, 1, 0, 0, 0), (1, .getfield 63, 4, 0, 9, 0), (4, .ireturn, 5, 0, 0, 0)]
theorem ok_T_finding : am_okM 127 cd_T_finding := by unfold am_okM; rw [am_m_127]; decide +kernel
/-- ThingsThrown.findings(I)I -/
abbrev n_T_findings : Nat := 128
def cd_T_findings : List Am_E := [(0, .iload_n 1, 1, 0, 0, 0), (1, .iconst 1, 2, 1, 0, 0), (2, .if_icmp .lt 8, 5, 10, 0, 0), (5, .iload_n 1, 6, 0, 0, 0), (6, .iconst 5, 7, 5, 0, 0), (7, .if_icmp .le 7, 10, 14, 0, 0), (10, .iconst (-1), 11, 1, 1, 0), (11, .goto 9, 14, 20, 0, 0), (14, .aload_n 0, 15, 0, 0, 0), (15, .getfield 59, 18, 0, 8, 0), (18, .iload_n 1, 19, 0, 0, 0), (19, .iaload, 20, 0, 0, 0), (20, .ireturn, 21, 0, 0, 0)]
theorem ok_T_findings : am_okM 128 cd_T_findings := by unfold am_okM; rw [am_m_128]; decide +kernel
/-- ThingsThrown.digest()J -/
abbrev n_T_digest : Nat := 129
def cd_T_digest : List Am_E := [(0, .ldc2_w 320, 3, 17, 0, 0), (3, .lstore_n 1, 4, 0, 0, 0), (4, .iconst 0, 5, 0, 0, 0), (5, .istore_n 3, 6, 0, 0, 0), (6, .iload_n 3, 7, 0, 0, 0), (7, .bipush 12, 9, 12, 0, 0), (9, .if_icmp .ge 22, 12, 31, 0, 0), (12, .ldc2_w 322, 15, 31, 0, 0), (15, .lload_n 1, 16, 0, 0, 0), (16, .lmul, 17, 0, 0, 0), (17, .aload_n 0, 18, 0, 0, 0), (18, .iload_n 3, 19, 0, 0, 0), (19, .invokevirtual 324, 22, 122, 2, 0), (22, .i2l, 23, 0, 0, 0), (23, .ladd, 24, 0, 0, 0), (24, .lstore_n 1, 25, 0, 0, 0), (25, .iinc 3 1, 28, 1, 0, 0), (28, .goto (-22), 31, 6, 0, 0), (31, .iconst 0, 32, 0, 0, 0), (32, .istore_n 3, 33, 0, 0, 0), (33, .iload_n 3, 34, 0, 0, 0), (34, .aload_n 0, 35, 0, 0, 0), (35, .getfield 28, 38, 0, 3, 0), (38, .getfield 148, 41, 6, 0, 0), (41, .if_icmp .ge 39, 44, 80, 0, 0), (44, .iconst 0, 45, 0, 0, 0), (45, .istore 4, 47, 0, 0, 0), (47, .iload 4, 49, 0, 0, 0), (49, .iconst 4, 50, 4, 0, 0), (50, .if_icmp .ge 24, 53, 74, 0, 0), (53, .ldc2_w 322, 56, 31, 0, 0), (56, .lload_n 1, 57, 0, 0, 0), (57, .lmul, 58, 0, 0, 0), (58, .aload_n 0, 59, 0, 0, 0), (59, .iload_n 3, 60, 0, 0, 0), (60, .iload 4, 62, 0, 0, 0), (62, .invokevirtual 152, 65, 41, 3, 0), (65, .i2l, 66, 0, 0, 0), (66, .ladd, 67, 0, 0, 0), (67, .lstore_n 1, 68, 0, 0, 0), (68, .iinc 4 1, 71, 1, 0, 0), (71, .goto (-24), 74, 47, 0, 0), (74, .iinc 3 1, 77, 1, 0, 0), (77, .goto (-44), 80, 33, 0, 0), (80, .iconst 0, 81, 0, 0, 0), (81, .istore_n 3, 82, 0, 0, 0), (82, .iload_n 3, 83, 0, 0, 0), (83, .iconst 3, 84, 3, 0, 0), (84, .if_icmp .ge 26, 87, 110, 0, 0), (87, .ldc2_w 322, 90, 31, 0, 0), (90, .lload_n 1, 91, 0, 0, 0), (91, .lmul, 92, 0, 0, 0), (92, .aload_n 0, 93, 0, 0, 0), (93, .getfield 39, 96, 0, 5, 0), (96, .iload_n 3, 97, 0, 0, 0), (97, .aaload, 98, 0, 0, 0), (98, .getfield 204, 101, 2, 2, 0), (101, .i2l, 102, 0, 0, 0), (102, .ladd, 103, 0, 0, 0), (103, .lstore_n 1, 104, 0, 0, 0), (104, .iinc 3 1, 107, 1, 0, 0), (107, .goto (-25), 110, 82, 0, 0), (110, .lload_n 1, 111, 0, 0, 0), (111, .aload_n 0, 112, 0, 0, 0), (112, .getfield 11, 115, 0, 0, 0), (115, .invokestatic 327, 118, 130, 2, 0), (118, .aload_n 0, 119, 0, 0, 0), (119, .getfield 15, 122, 0, 1, 0), (122, .invokestatic 327, 125, 130, 2, 0), (125, .lreturn, 126, 0, 0, 0)]
theorem ok_T_digest : am_okM 129 cd_T_digest := by unfold am_okM; rw [am_m_129]; decide +kernel
/-- ThingsThrown.digestOfSheets(J[LThingsThrown$Sheet;)J -/
abbrev n_T_digestOfSheets : Nat := 130
def cd_T_digestOfSheets : List Am_E := [(0, .lload_n 0, 1, 0, 0, 0), (1, .lstore_n 3, 2, 0, 0, 0), (2, .iconst 0, 3, 0, 0, 0), (3, .istore 5, 5, 0, 0, 0), (5, .iload 5, 7, 0, 0, 0), (7, .aload_n 2, 8, 0, 0, 0), (8, .arraylength, 9, 0, 0, 0), (9, .if_icmp .ge 63, 12, 72, 0, 0), (12, .ldc2_w 322, 15, 31, 0, 0), (15, .lload_n 3, 16, 0, 0, 0), (16, .lmul, 17, 0, 0, 0), (17, .aload_n 2, 18, 0, 0, 0), (18, .iload 5, 20, 0, 0, 0), (20, .aaload, 21, 0, 0, 0), (21, .getfield 108, 24, 4, 1, 0), (24, .i2l, 25, 0, 0, 0), (25, .ladd, 26, 0, 0, 0), (26, .lstore_n 3, 27, 0, 0, 0), (27, .iconst 0, 28, 0, 0, 0), (28, .istore 6, 30, 0, 0, 0), (30, .iload 6, 32, 0, 0, 0), (32, .aload_n 2, 33, 0, 0, 0), (33, .iload 5, 35, 0, 0, 0), (35, .aaload, 36, 0, 0, 0), (36, .getfield 108, 39, 4, 1, 0), (39, .if_icmp .ge 27, 42, 66, 0, 0), (42, .ldc2_w 322, 45, 31, 0, 0), (45, .lload_n 3, 46, 0, 0, 0), (46, .lmul, 47, 0, 0, 0), (47, .aload_n 2, 48, 0, 0, 0), (48, .iload 5, 50, 0, 0, 0), (50, .aaload, 51, 0, 0, 0), (51, .getfield 99, 54, 4, 0, 0), (54, .iload 6, 56, 0, 0, 0), (56, .iaload, 57, 0, 0, 0), (57, .i2l, 58, 0, 0, 0), (58, .ladd, 59, 0, 0, 0), (59, .lstore_n 3, 60, 0, 0, 0), (60, .iinc 6 1, 63, 1, 0, 0), (63, .goto (-33), 66, 30, 0, 0), (66, .iinc 5 1, 69, 1, 0, 0), (69, .goto (-64), 72, 5, 0, 0), (72, .lload_n 3, 73, 0, 0, 0), (73, .lreturn, 74, 0, 0, 0)]
theorem ok_T_digestOfSheets : am_okM 130 cd_T_digestOfSheets := by unfold am_okM; rw [am_m_130]; decide +kernel
/-- ThingsThrownModel.<init>()V -/
abbrev n_M_init : Nat := 131
def cd_M_init : List Am_E := [(0, .aload_n 0, 1, 0, 0, 0), (1, .invokespecial 1, 4, 9000, 0, 0), (4, .aload_n 0, 5, 0, 0, 0), (5, .sipush 2149, 8, 2149, 0, 0), (8, .newarray .int, 10, 0, 0, 0), (10, .putfield 7, 13, 7, 0, 0), (13, .aload_n 0, 14, 0, 0, 0), (14, .bipush 6, 16, 6, 0, 0), (16, .newarray .int, 18, 0, 0, 0), (18, .putfield 13, 21, 7, 1, 0), (21, .aload_n 0, 22, 0, 0, 0), (22, .iconst 3, 23, 3, 0, 0), (23, .newarray .int, 25, 0, 0, 0), (25, .putfield 16, 28, 7, 3, 0), (28, .aload_n 0, 29, 0, 0, 0), (29, .sipush 240, 32, 240, 0, 0), (32, .newarray .int, 34, 0, 0, 0), (34, .putfield 19, 37, 7, 4, 0), (37, .aload_n 0, 38, 0, 0, 0), (38, .bipush 6, 40, 6, 0, 0), (40, .newarray .int, 42, 0, 0, 0), (42, .putfield 22, 45, 7, 5, 0), (45, .aload_n 0, 46, 0, 0, 0), (46, .sipush 240, 49, 240, 0, 0), (49, .newarray .byte, 51, 0, 0, 0), (51, .putfield 25, 54, 7, 6, 0), (54, .aload_n 0, 55, 0, 0, 0), (55, .iconst 4, 56, 4, 0, 0), (56, .newarray .int, 58, 0, 0, 0), (58, .putfield 29, 61, 7, 7, 0), (61, .aload_n 0, 62, 0, 0, 0), (62, .lconst 1, 63, 1, 0, 0), (63, .putfield 32, 66, 7, 10, 0), (66, .aload_n 0, 67, 0, 0, 0), (67, .bipush 6, 69, 6, 0, 0), (69, .newarray .int, 71, 0, 0, 0), (71, .putfield 36, 74, 7, 12, 0), (74, .aload_n 0, 75, 0, 0, 0), (75, .bipush 6, 77, 6, 0, 0), (77, .newarray .int, 79, 0, 0, 0), (79, .putfield 39, 82, 7, 13, 0), (82, .aload_n 0, 83, 0, 0, 0), (83, .bipush 6, 85, 6, 0, 0), (85, .newarray .int, 87, 0, 0, 0), (87, .putfield 42, 90, 7, 14, 0), (90, .aload_n 0, 91, 0, 0, 0), (91, .sipush 2801, 94, 2801, 0, 0), (94, .newarray .int, 96, 0, 0, 0), (96, .putfield 45, 99, 7, 16, 0), (99, .iconst 0, 100, 0, 0, 0), (100, .istore_n 1, 101, 0, 0, 0), (101, .iload_n 1, 102, 0, 0, 0), (102, .bipush 6, 104, 6, 0, 0), (104, .if_icmp .ge 16, 107, 120, 0, 0), (107, .aload_n 0, 108, 0, 0, 0), (108, .getfield 22, 111, 7, 5, 0), (111, .iload_n 1, 112, 0, 0, 0), (112, .iconst (-1), 113, 1, 1, 0), (113, .iastore, 114, 0, 0, 0), (114, .iinc 1 1, 117, 1, 0, 0), (117, .goto (-16), 120, 101, 0, 0), (120, .iconst 0, 121, 0, 0, 0), (121, .istore_n 1, 122, 0, 0, 0), (122, .iload_n 1, 123, 0, 0, 0), (123, .iconst 4, 124, 4, 0, 0), (124, .if_icmp .ge 16, 127, 140, 0, 0), (127, .aload_n 0, 128, 0, 0, 0), (128, .getfield 29, 131, 7, 7, 0), (131, .iload_n 1, 132, 0, 0, 0), (132, .iconst (-1), 133, 1, 1, 0), (133, .iastore, 134, 0, 0, 0), (134, .iinc 1 1, 137, 1, 0, 0), (137, .goto (-15), 140, 122, 0, 0), (140, .iconst 0, 141, 0, 0, 0), (141, .istore_n 1, 142, 0, 0, 0), (142, .iload_n 1, 143, 0, 0, 0), (143, .iconst 3, 144, 3, 0, 0), (144, .if_icmp .ge 16, 147, 160, 0, 0), (147, .aload_n 0, 148, 0, 0, 0), (148, .getfield 16, 151, 7, 3, 0), (151, .iload_n 1, 152, 0, 0, 0), (152, .iconst (-1), 153, 1, 1, 0), (153, .iastore, 154, 0, 0, 0), (154, .iinc 1 1, 157, 1, 0, 0), (157, .goto (-15), 160, 142, 0, 0), (160, .return_, 161, 0, 0, 0)]
theorem ok_M_init : am_okM 131 cd_M_init := by unfold am_okM; rw [am_m_131]; decide +kernel
/-- ThingsThrownModel.row(II)I -/
abbrev n_M_row : Nat := 132
def cd_M_row : List Am_E := [(0, .iload_n 1, 1, 0, 0, 0), (1, .invokestatic 59, 4, 133, 1, 0), (4, .ifCond .eq 9, 7, 13, 0, 0), (7, .iload_n 2, 8, 0, 0, 0), (8, .bipush 40, 10, 40, 0, 0), (10, .if_icmp .le 5, 13, 15, 0, 0), (13, .iconst (-1), 14, 1, 1, 0), (14, .ireturn, 15, 0, 0, 0), (15, .iload_n 2, 16, 0, 0, 0), (16, .ifCond .ge 9, 19, 25, 0, 0), (19, .aload_n 0, 20, 0, 0, 0), (20, .iconst 5, 21, 5, 0, 0), (21, .invokevirtual 63, 24, 135, 2, 7), (24, .ireturn, 25, 0, 0, 0), (25, .aload_n 0, 26, 0, 0, 0), (26, .getfield 22, 29, 7, 5, 0), (29, .iload_n 1, 30, 0, 0, 0), (30, .iload_n 2, 31, 0, 0, 0), (31, .iastore, 32, 0, 0, 0), (32, .iconst 0, 33, 0, 0, 0), (33, .istore_n 3, 34, 0, 0, 0), (34, .iload_n 3, 35, 0, 0, 0), (35, .iload_n 2, 36, 0, 0, 0), (36, .if_icmp .ge 21, 39, 57, 0, 0), (39, .aload_n 0, 40, 0, 0, 0), (40, .getfield 19, 43, 7, 4, 0), (43, .bipush 40, 45, 40, 0, 0), (45, .iload_n 1, 46, 0, 0, 0), (46, .imul, 47, 0, 0, 0), (47, .iload_n 3, 48, 0, 0, 0), (48, .iadd, 49, 0, 0, 0), (49, .iconst 0, 50, 0, 0, 0), (50, .iastore, 51, 0, 0, 0), (51, .iinc 3 1, 54, 1, 0, 0), (54, .goto (-20), 57, 34, 0, 0), (57, .iload_n 2, 58, 0, 0, 0), (58, .ireturn, 59, 0, 0, 0)]
theorem ok_M_row : am_okM 132 cd_M_row := by unfold am_okM; rw [am_m_132]; decide +kernel
/-- ThingsThrownModel.isRow(I)Z -/
abbrev n_M_isRow : Nat := 133
def cd_M_isRow : List Am_E := [(0, .iload_n 0, 1, 0, 0, 0), (1, .iconst 0, 2, 0, 0, 0), (2, .iconst 5, 3, 5, 0, 0), (3, .invokestatic 55, 6, 134, 3, 0), (6, .ireturn, 7, 0, 0, 0)]
theorem ok_M_isRow : am_okM 133 cd_M_isRow := by unfold am_okM; rw [am_m_133]; decide +kernel
/-- ThingsThrownModel.in(III)Z -/
abbrev n_M_in : Nat := 134
def cd_M_in : List Am_E := [(0, .iload_n 0, 1, 0, 0, 0), (1, .iload_n 1, 2, 0, 0, 0), (2, .if_icmp .lt 12, 5, 14, 0, 0), (5, .iload_n 0, 6, 0, 0, 0), (6, .iload_n 2, 7, 0, 0, 0), (7, .if_icmp .gt 7, 10, 14, 0, 0), (10, .iconst 1, 11, 1, 0, 0), (11, .goto 4, 14, 15, 0, 0), (14, .iconst 0, 15, 0, 0, 0), (15, .ireturn, 16, 0, 0, 0)]
theorem ok_M_in : am_okM 134 cd_M_in := by unfold am_okM; rw [am_m_134]; decide +kernel
/-- ThingsThrownModel.found(I)I -/
abbrev n_M_found : Nat := 135
def cd_M_found : List Am_E := [(0, .aload_n 0, 1, 0, 0, 0), (1, .iload_n 1, 2, 0, 0, 0), (2, .putfield 48, 5, 7, 11, 0), (5, .aload_n 0, 6, 0, 0, 0), (6, .getfield 36, 9, 7, 12, 0), (9, .iload_n 1, 10, 0, 0, 0), (10, .dup2, 11, 0, 0, 0), (11, .iaload, 12, 0, 0, 0), (12, .iconst 1, 13, 1, 0, 0), (13, .iadd, 14, 0, 0, 0), (14, .iastore, 15, 0, 0, 0), (15, .bipush (-3), 17, 3, 1, 0), (17, .ireturn, 18, 0, 0, 0)]
theorem ok_M_found : am_okM 135 cd_M_found := by unfold am_okM; rw [am_m_135]; decide +kernel
/-- ThingsThrownModel.lay(III)I -/
abbrev n_M_lay : Nat := 136
def cd_M_lay : List Am_E := [(0, .aload_n 0, 1, 0, 0, 0), (1, .iload_n 1, 2, 0, 0, 0), (2, .iload_n 2, 3, 0, 0, 0), (3, .invokevirtual 67, 6, 137, 3, 7), (6, .istore 4, 8, 0, 0, 0), (8, .iload 4, 10, 0, 0, 0), (10, .ifCond .ge 6, 13, 16, 0, 0), (13, .iload 4, 15, 0, 0, 0), (15, .ireturn, 16, 0, 0, 0), (16, .aload_n 0, 17, 0, 0, 0), (17, .getfield 19, 20, 7, 4, 0), (20, .bipush 40, 22, 40, 0, 0), (22, .iload_n 1, 23, 0, 0, 0), (23, .imul, 24, 0, 0, 0), (24, .iload_n 2, 25, 0, 0, 0), (25, .iadd, 26, 0, 0, 0), (26, .iaload, 27, 0, 0, 0), (27, .istore 5, 29, 0, 0, 0), (29, .aload_n 0, 30, 0, 0, 0), (30, .getfield 19, 33, 7, 4, 0), (33, .bipush 40, 35, 40, 0, 0), (35, .iload_n 1, 36, 0, 0, 0), (36, .imul, 37, 0, 0, 0), (37, .iload_n 2, 38, 0, 0, 0), (38, .iadd, 39, 0, 0, 0), (39, .iload_n 3, 40, 0, 0, 0), (40, .iastore, 41, 0, 0, 0), (41, .aload_n 0, 42, 0, 0, 0), (42, .iload 5, 44, 0, 0, 0), (44, .invokevirtual 71, 47, 138, 2, 7), (47, .ireturn, 48, 0, 0, 0)]
theorem ok_M_lay : am_okM 136 cd_M_lay := by unfold am_okM; rw [am_m_136]; decide +kernel
/-- ThingsThrownModel.wrongPlace(II)I -/
abbrev n_M_wrongPlace : Nat := 137
def cd_M_wrongPlace : List Am_E := [(0, .iload_n 1, 1, 0, 0, 0), (1, .invokestatic 59, 4, 133, 1, 0), (4, .ifCond .ne 7, 7, 11, 0, 0), (7, .iconst (-1), 8, 1, 1, 0), (8, .goto 45, 11, 53, 0, 0), (11, .aload_n 0, 12, 0, 0, 0), (12, .getfield 22, 15, 7, 5, 0), (15, .iload_n 1, 16, 0, 0, 0), (16, .iaload, 17, 0, 0, 0), (17, .ifCond .ge 11, 20, 28, 0, 0), (20, .aload_n 0, 21, 0, 0, 0), (21, .iconst 1, 22, 1, 0, 0), (22, .invokevirtual 63, 25, 135, 2, 7), (25, .goto 28, 28, 53, 0, 0), (28, .iload_n 2, 29, 0, 0, 0), (29, .iconst 0, 30, 0, 0, 0), (30, .aload_n 0, 31, 0, 0, 0), (31, .getfield 22, 34, 7, 5, 0), (34, .iload_n 1, 35, 0, 0, 0), (35, .iaload, 36, 0, 0, 0), (36, .iconst 1, 37, 1, 0, 0), (37, .isub, 38, 0, 0, 0), (38, .invokestatic 55, 41, 134, 3, 0), (41, .ifCond .ne 11, 44, 52, 0, 0), (44, .aload_n 0, 45, 0, 0, 0), (45, .iconst 2, 46, 2, 0, 0), (46, .invokevirtual 63, 49, 135, 2, 7), (49, .goto 4, 52, 53, 0, 0), (52, .iconst 0, 53, 0, 0, 0), (53, .ireturn, 54, 0, 0, 0)]
theorem ok_M_wrongPlace : am_okM 137 cd_M_wrongPlace := by unfold am_okM; rw [am_m_137]; decide +kernel
/-- ThingsThrownModel.tell(I)I -/
abbrev n_M_tell : Nat := 138
def cd_M_tell : List Am_E := [(0, .aload_n 0, 1, 0, 0, 0), (1, .iload_n 1, 2, 0, 0, 0), (2, .putfield 52, 5, 7, 8, 0), (5, .iconst 1, 6, 1, 0, 0), (6, .ireturn, 7, 0, 0, 0)]
theorem ok_M_tell : am_okM 138 cd_M_tell := by unfold am_okM; rw [am_m_138]; decide +kernel
/-- ThingsThrownModel.at(II)I -/
abbrev n_M_at : Nat := 139
def cd_M_at : List Am_E := [(0, .aload_n 0, 1, 0, 0, 0), (1, .iload_n 1, 2, 0, 0, 0), (2, .iload_n 2, 3, 0, 0, 0), (3, .invokevirtual 67, 6, 137, 3, 7), (6, .istore_n 3, 7, 0, 0, 0), (7, .iload_n 3, 8, 0, 0, 0), (8, .ifCond .ge 7, 11, 15, 0, 0), (11, .iload_n 3, 12, 0, 0, 0), (12, .goto 18, 15, 30, 0, 0), (15, .aload_n 0, 16, 0, 0, 0), (16, .aload_n 0, 17, 0, 0, 0), (17, .getfield 19, 20, 7, 4, 0), (20, .bipush 40, 22, 40, 0, 0), (22, .iload_n 1, 23, 0, 0, 0), (23, .imul, 24, 0, 0, 0), (24, .iload_n 2, 25, 0, 0, 0), (25, .iadd, 26, 0, 0, 0), (26, .iaload, 27, 0, 0, 0), (27, .invokevirtual 71, 30, 138, 2, 7), (30, .ireturn, 31, 0, 0, 0)]
theorem ok_M_at : am_okM 139 cd_M_at := by unfold am_okM; rw [am_m_139]; decide +kernel
/-- ThingsThrownModel.tear(I)I -/
abbrev n_M_tear : Nat := 140
def cd_M_tear : List Am_E := [(0, .iload_n 1, 1, 0, 0, 0), (1, .invokestatic 59, 4, 133, 1, 0), (4, .ifCond .ne 5, 7, 9, 0, 0), (7, .iconst (-1), 8, 1, 1, 0), (8, .ireturn, 9, 0, 0, 0), (9, .aload_n 0, 10, 0, 0, 0), (10, .getfield 22, 13, 7, 5, 0), (13, .iload_n 1, 14, 0, 0, 0), (14, .iaload, 15, 0, 0, 0), (15, .ifCond .ge 9, 18, 24, 0, 0), (18, .aload_n 0, 19, 0, 0, 0), (19, .iconst 1, 20, 1, 0, 0), (20, .invokevirtual 63, 23, 135, 2, 7), (23, .ireturn, 24, 0, 0, 0), (24, .aload_n 0, 25, 0, 0, 0), (25, .getfield 22, 28, 7, 5, 0), (28, .iload_n 1, 29, 0, 0, 0), (29, .iconst (-1), 30, 1, 1, 0), (30, .iastore, 31, 0, 0, 0), (31, .iconst 1, 32, 1, 0, 0), (32, .ireturn, 33, 0, 0, 0)]
theorem ok_M_tear : am_okM 140 cd_M_tear := by unfold am_okM; rw [am_m_140]; decide +kernel
/-- ThingsThrownModel.copy(IIIII)I -/
abbrev n_M_copy : Nat := 141
def cd_M_copy : List Am_E := [(0, .iload_n 1, 1, 0, 0, 0), (1, .invokestatic 59, 4, 133, 1, 0), (4, .ifCond .eq 10, 7, 14, 0, 0), (7, .iload_n 3, 8, 0, 0, 0), (8, .invokestatic 59, 11, 133, 1, 0), (11, .ifCond .ne 5, 14, 16, 0, 0), (14, .iconst (-1), 15, 1, 1, 0), (15, .ireturn, 16, 0, 0, 0), (16, .iload 5, 18, 0, 0, 0), (18, .ifCond .ge 9, 21, 27, 0, 0), (21, .aload_n 0, 22, 0, 0, 0), (22, .iconst 5, 23, 5, 0, 0), (23, .invokevirtual 63, 26, 135, 2, 7), (26, .ireturn, 27, 0, 0, 0), (27, .aload_n 0, 28, 0, 0, 0), (28, .getfield 22, 31, 7, 5, 0), (31, .iload_n 1, 32, 0, 0, 0), (32, .iaload, 33, 0, 0, 0), (33, .ifCond .lt 12, 36, 45, 0, 0), (36, .aload_n 0, 37, 0, 0, 0), (37, .getfield 22, 40, 7, 5, 0), (40, .iload_n 3, 41, 0, 0, 0), (41, .iaload, 42, 0, 0, 0), (42, .ifCond .ge 9, 45, 51, 0, 0), (45, .aload_n 0, 46, 0, 0, 0), (46, .iconst 1, 47, 1, 0, 0), (47, .invokevirtual 63, 50, 135, 2, 7), (50, .ireturn, 51, 0, 0, 0), (51, .aload_n 0, 52, 0, 0, 0), (52, .iload_n 1, 53, 0, 0, 0), (53, .iload_n 2, 54, 0, 0, 0), (54, .iload 5, 56, 0, 0, 0), (56, .invokevirtual 74, 59, 142, 4, 7), (59, .ifCond .eq 15, 62, 74, 0, 0), (62, .aload_n 0, 63, 0, 0, 0), (63, .iload_n 3, 64, 0, 0, 0), (64, .iload 4, 66, 0, 0, 0), (66, .iload 5, 68, 0, 0, 0), (68, .invokevirtual 74, 71, 142, 4, 7), (71, .ifCond .ne 9, 74, 80, 0, 0), (74, .aload_n 0, 75, 0, 0, 0), (75, .iconst 2, 76, 2, 0, 0), (76, .invokevirtual 63, 79, 135, 2, 7), (79, .ireturn, 80, 0, 0, 0), (80, .iload_n 1, 81, 0, 0, 0), (81, .iload_n 3, 82, 0, 0, 0), (82, .if_icmp .ne 13, 85, 95, 0, 0), (85, .iload_n 2, 86, 0, 0, 0), (86, .iload 4, 88, 0, 0, 0), (88, .if_icmp .ge 7, 91, 95, 0, 0), (91, .iconst 1, 92, 1, 0, 0), (92, .goto 4, 95, 96, 0, 0), (95, .iconst 0, 96, 0, 0, 0), (96, .istore 6, 98, 0, 0, 0), (98, .iconst 0, 99, 0, 0, 0), (99, .istore 7, 101, 0, 0, 0), (101, .iload 7, 103, 0, 0, 0), (103, .iload 5, 105, 0, 0, 0), (105, .if_icmp .ge 57, 108, 162, 0, 0), (108, .iload 6, 110, 0, 0, 0), (110, .ifCond .eq 13, 113, 123, 0, 0), (113, .iload 5, 115, 0, 0, 0), (115, .iconst 1, 116, 1, 0, 0), (116, .isub, 117, 0, 0, 0), (117, .iload 7, 119, 0, 0, 0), (119, .isub, 120, 0, 0, 0), (120, .goto 5, 123, 125, 0, 0), (123, .iload 7, 125, 0, 0, 0), (125, .istore 8, 127, 0, 0, 0), (127, .aload_n 0, 128, 0, 0, 0), (128, .getfield 19, 131, 7, 4, 0), (131, .bipush 40, 133, 40, 0, 0), (133, .iload_n 3, 134, 0, 0, 0), (134, .imul, 135, 0, 0, 0), (135, .iload 4, 137, 0, 0, 0), (137, .iadd, 138, 0, 0, 0), (138, .iload 8, 140, 0, 0, 0), (140, .iadd, 141, 0, 0, 0), (141, .aload_n 0, 142, 0, 0, 0), (142, .getfield 19, 145, 7, 4, 0), (145, .bipush 40, 147, 40, 0, 0), (147, .iload_n 1, 148, 0, 0, 0), (148, .imul, 149, 0, 0, 0), (149, .iload_n 2, 150, 0, 0, 0), (150, .iadd, 151, 0, 0, 0), (151, .iload 8, 153, 0, 0, 0), (153, .iadd, 154, 0, 0, 0), (154, .iaload, 155, 0, 0, 0), (155, .iastore, 156, 0, 0, 0), (156, .iinc 7 1, 159, 1, 0, 0), (159, .goto (-58), 162, 101, 0, 0), (162, .iconst 1, 163, 1, 0, 0), (163, .ireturn, 164, 0, 0, 0)]
theorem ok_M_copy : am_okM 141 cd_M_copy := by unfold am_okM; rw [am_m_141]; decide +kernel
/-- ThingsThrownModel.isPart(III)Z -/
abbrev n_M_isPart : Nat := 142
def cd_M_isPart : List Am_E := [(0, .iload_n 2, 1, 0, 0, 0), (1, .ifCond .lt 25, 4, 26, 0, 0), (4, .iload_n 3, 5, 0, 0, 0), (5, .bipush 40, 7, 40, 0, 0), (7, .if_icmp .gt 19, 10, 26, 0, 0), (10, .iload_n 2, 11, 0, 0, 0), (11, .aload_n 0, 12, 0, 0, 0), (12, .getfield 22, 15, 7, 5, 0), (15, .iload_n 1, 16, 0, 0, 0), (16, .iaload, 17, 0, 0, 0), (17, .iload_n 3, 18, 0, 0, 0), (18, .isub, 19, 0, 0, 0), (19, .if_icmp .gt 7, 22, 26, 0, 0), (22, .iconst 1, 23, 1, 0, 0), (23, .goto 4, 26, 27, 0, 0), (26, .iconst 0, 27, 0, 0, 0), (27, .ireturn, 28, 0, 0, 0)]
theorem ok_M_isPart : am_okM 142 cd_M_isPart := by unfold am_okM; rw [am_m_142]; decide +kernel
/-- ThingsThrownModel.mean(I)I -/
abbrev n_M_mean : Nat := 143
def cd_M_mean : List Am_E := [(0, .iload_n 1, 1, 0, 0, 0), (1, .invokestatic 59, 4, 133, 1, 0), (4, .ifCond .ne 5, 7, 9, 0, 0), (7, .iconst (-1), 8, 1, 1, 0), (8, .ireturn, 9, 0, 0, 0), (9, .aload_n 0, 10, 0, 0, 0), (10, .getfield 22, 13, 7, 5, 0), (13, .iload_n 1, 14, 0, 0, 0), (14, .iaload, 15, 0, 0, 0), (15, .ifCond .ge 9, 18, 24, 0, 0), (18, .aload_n 0, 19, 0, 0, 0), (19, .iconst 1, 20, 1, 0, 0), (20, .invokevirtual 63, 23, 135, 2, 7), (23, .ireturn, 24, 0, 0, 0), (24, .aload_n 0, 25, 0, 0, 0), (25, .getfield 22, 28, 7, 5, 0), (28, .iload_n 1, 29, 0, 0, 0), (29, .iaload, 30, 0, 0, 0), (30, .ifCond .ne 9, 33, 39, 0, 0), (33, .aload_n 0, 34, 0, 0, 0), (34, .iconst 4, 35, 4, 0, 0), (35, .invokevirtual 63, 38, 135, 2, 7), (38, .ireturn, 39, 0, 0, 0), (39, .lconst 0, 40, 0, 0, 0), (40, .lstore_n 2, 41, 0, 0, 0), (41, .iconst 0, 42, 0, 0, 0), (42, .istore 4, 44, 0, 0, 0), (44, .iload 4, 46, 0, 0, 0), (46, .aload_n 0, 47, 0, 0, 0), (47, .getfield 22, 50, 7, 5, 0), (50, .iload_n 1, 51, 0, 0, 0), (51, .iaload, 52, 0, 0, 0), (52, .if_icmp .ge 25, 55, 77, 0, 0), (55, .lload_n 2, 56, 0, 0, 0), (56, .aload_n 0, 57, 0, 0, 0), (57, .getfield 19, 60, 7, 4, 0), (60, .bipush 40, 62, 40, 0, 0), (62, .iload_n 1, 63, 0, 0, 0), (63, .imul, 64, 0, 0, 0), (64, .iload 4, 66, 0, 0, 0), (66, .iadd, 67, 0, 0, 0), (67, .iaload, 68, 0, 0, 0), (68, .i2l, 69, 0, 0, 0), (69, .ladd, 70, 0, 0, 0), (70, .lstore_n 2, 71, 0, 0, 0), (71, .iinc 4 1, 74, 1, 0, 0), (74, .goto (-30), 77, 44, 0, 0), (77, .aload_n 0, 78, 0, 0, 0), (78, .lload_n 2, 79, 0, 0, 0), (79, .aload_n 0, 80, 0, 0, 0), (80, .getfield 22, 83, 7, 5, 0), (83, .iload_n 1, 84, 0, 0, 0), (84, .iaload, 85, 0, 0, 0), (85, .i2l, 86, 0, 0, 0), (86, .ldiv, 87, 0, 0, 0), (87, .l2i, 88, 0, 0, 0), (88, .invokevirtual 71, 91, 138, 2, 7), (91, .ireturn, 92, 0, 0, 0)]
theorem ok_M_mean : am_okM 143 cd_M_mean := by unfold am_okM; rw [am_m_143]; decide +kernel
/-- ThingsThrownModel.text(II)I -/
abbrev n_M_text : Nat := 144
def cd_M_text : List Am_E := [(0, .iload_n 1, 1, 0, 0, 0), (1, .invokestatic 77, 4, 145, 1, 0), (4, .ifCond .eq 9, 7, 13, 0, 0), (7, .iload_n 2, 8, 0, 0, 0), (8, .bipush 60, 10, 60, 0, 0), (10, .if_icmp .le 5, 13, 15, 0, 0), (13, .iconst (-1), 14, 1, 1, 0), (14, .ireturn, 15, 0, 0, 0), (15, .iload_n 2, 16, 0, 0, 0), (16, .ifCond .ge 9, 19, 25, 0, 0), (19, .aload_n 0, 20, 0, 0, 0), (20, .iconst 5, 21, 5, 0, 0), (21, .invokevirtual 63, 24, 135, 2, 7), (24, .ireturn, 25, 0, 0, 0), (25, .aload_n 0, 26, 0, 0, 0), (26, .getfield 29, 29, 7, 7, 0), (29, .iload_n 1, 30, 0, 0, 0), (30, .iload_n 2, 31, 0, 0, 0), (31, .iastore, 32, 0, 0, 0), (32, .iconst 0, 33, 0, 0, 0), (33, .istore_n 3, 34, 0, 0, 0), (34, .iload_n 3, 35, 0, 0, 0), (35, .iload_n 2, 36, 0, 0, 0), (36, .if_icmp .ge 22, 39, 58, 0, 0), (39, .aload_n 0, 40, 0, 0, 0), (40, .getfield 25, 43, 7, 6, 0), (43, .bipush 60, 45, 60, 0, 0), (45, .iload_n 1, 46, 0, 0, 0), (46, .imul, 47, 0, 0, 0), (47, .iload_n 3, 48, 0, 0, 0), (48, .iadd, 49, 0, 0, 0), (49, .bipush 32, 51, 32, 0, 0), (51, .bastore, 52, 0, 0, 0), (52, .iinc 3 1, 55, 1, 0, 0), (55, .goto (-21), 58, 34, 0, 0), (58, .iload_n 2, 59, 0, 0, 0), (59, .ireturn, 60, 0, 0, 0)]
theorem ok_M_text : am_okM 144 cd_M_text := by unfold am_okM; rw [am_m_144]; decide +kernel
/-- ThingsThrownModel.isText(I)Z -/
abbrev n_M_isText : Nat := 145
def cd_M_isText : List Am_E := [(0, .iload_n 0, 1, 0, 0, 0), (1, .iconst 0, 2, 0, 0, 0), (2, .iconst 3, 3, 3, 0, 0), (3, .invokestatic 55, 6, 134, 3, 0), (6, .ireturn, 7, 0, 0, 0)]
theorem ok_M_isText : am_okM 145 cd_M_isText := by unfold am_okM; rw [am_m_145]; decide +kernel
/-- ThingsThrownModel.put(III)I -/
abbrev n_M_put : Nat := 146
def cd_M_put : List Am_E := [(0, .iload_n 1, 1, 0, 0, 0), (1, .invokestatic 77, 4, 145, 1, 0), (4, .ifCond .ne 5, 7, 9, 0, 0), (7, .iconst (-1), 8, 1, 1, 0), (8, .ireturn, 9, 0, 0, 0), (9, .aload_n 0, 10, 0, 0, 0), (10, .getfield 29, 13, 7, 7, 0), (13, .iload_n 1, 14, 0, 0, 0), (14, .iaload, 15, 0, 0, 0), (15, .ifCond .ge 9, 18, 24, 0, 0), (18, .aload_n 0, 19, 0, 0, 0), (19, .iconst 1, 20, 1, 0, 0), (20, .invokevirtual 63, 23, 135, 2, 7), (23, .ireturn, 24, 0, 0, 0), (24, .iload_n 2, 25, 0, 0, 0), (25, .iconst 0, 26, 0, 0, 0), (26, .aload_n 0, 27, 0, 0, 0), (27, .getfield 29, 30, 7, 7, 0), (30, .iload_n 1, 31, 0, 0, 0), (31, .iaload, 32, 0, 0, 0), (32, .iconst 1, 33, 1, 0, 0), (33, .isub, 34, 0, 0, 0), (34, .invokestatic 55, 37, 134, 3, 0), (37, .ifCond .ne 9, 40, 46, 0, 0), (40, .aload_n 0, 41, 0, 0, 0), (41, .iconst 2, 42, 2, 0, 0), (42, .invokevirtual 63, 45, 135, 2, 7), (45, .ireturn, 46, 0, 0, 0), (46, .aload_n 0, 47, 0, 0, 0), (47, .getfield 25, 50, 7, 6, 0), (50, .bipush 60, 52, 60, 0, 0), (52, .iload_n 1, 53, 0, 0, 0), (53, .imul, 54, 0, 0, 0), (54, .iload_n 2, 55, 0, 0, 0), (55, .iadd, 56, 0, 0, 0), (56, .baload, 57, 0, 0, 0), (57, .istore 4, 59, 0, 0, 0), (59, .aload_n 0, 60, 0, 0, 0), (60, .getfield 25, 63, 7, 6, 0), (63, .bipush 60, 65, 60, 0, 0), (65, .iload_n 1, 66, 0, 0, 0), (66, .imul, 67, 0, 0, 0), (67, .iload_n 2, 68, 0, 0, 0), (68, .iadd, 69, 0, 0, 0), (69, .iload_n 3, 70, 0, 0, 0), (70, .i2b, 71, 0, 0, 0), (71, .bastore, 72, 0, 0, 0), (72, .iload 4, 74, 0, 0, 0), (74, .sipush 1000, 77, 1000, 0, 0), (77, .iadd, 78, 0, 0, 0), (78, .ireturn, 79, 0, 0, 0)]
theorem ok_M_put : am_okM 146 cd_M_put := by unfold am_okM; rw [am_m_146]; decide +kernel
/-- ThingsThrownModel.fault(I)I -/
abbrev n_M_fault : Nat := 147
def cd_M_fault : List Am_E := [(0, .iload_n 1, 1, 0, 0, 0), (1, .invokestatic 77, 4, 145, 1, 0), (4, .ifCond .ne 5, 7, 9, 0, 0), (7, .iconst (-1), 8, 1, 1, 0), (8, .ireturn, 9, 0, 0, 0), (9, .aload_n 0, 10, 0, 0, 0), (10, .getfield 29, 13, 7, 7, 0), (13, .iload_n 1, 14, 0, 0, 0), (14, .iaload, 15, 0, 0, 0), (15, .ifCond .ge 11, 18, 26, 0, 0), (18, .aload_n 0, 19, 0, 0, 0), (19, .iconst 1, 20, 1, 0, 0), (20, .invokevirtual 63, 23, 135, 2, 7), (23, .goto 8, 26, 31, 0, 0), (26, .aload_n 0, 27, 0, 0, 0), (27, .iload_n 1, 28, 0, 0, 0), (28, .invokevirtual 92, 31, 148, 2, 7), (31, .ireturn, 32, 0, 0, 0)]
theorem ok_M_fault : am_okM 147 cd_M_fault := by unfold am_okM; rw [am_m_147]; decide +kernel
/-- ThingsThrownModel.readText(I)I -/
abbrev n_M_readText : Nat := 148
def cd_M_readText : List Am_E := [(0, .aload_n 0, 1, 0, 0, 0), (1, .iconst 0, 2, 0, 0, 0), (2, .putfield 80, 5, 7, 15, 0), (5, .iconst 0, 6, 0, 0, 0), (6, .istore_n 2, 7, 0, 0, 0), (7, .aload_n 0, 8, 0, 0, 0), (8, .iload_n 1, 9, 0, 0, 0), (9, .iload_n 2, 10, 0, 0, 0), (10, .invokevirtual 83, 13, 149, 3, 7), (13, .bipush 32, 15, 32, 0, 0), (15, .if_icmp .ne 9, 18, 24, 0, 0), (18, .iinc 2 1, 21, 1, 0, 0), (21, .goto (-14), 24, 7, 0, 0), (24, .iload_n 2, 25, 0, 0, 0), (25, .aload_n 0, 26, 0, 0, 0), (26, .getfield 29, 29, 7, 7, 0), (29, .iload_n 1, 30, 0, 0, 0), (30, .iaload, 31, 0, 0, 0), (31, .if_icmp .lt 22, 34, 53, 0, 0), (34, .aload_n 0, 35, 0, 0, 0), (35, .getfield 80, 38, 7, 15, 0), (38, .ifCond .le 8, 41, 46, 0, 0), (41, .bipush (-9), 43, 9, 1, 0), (43, .goto 9, 46, 52, 0, 0), (46, .aload_n 0, 47, 0, 0, 0), (47, .getfield 29, 50, 7, 7, 0), (50, .iload_n 1, 51, 0, 0, 0), (51, .iaload, 52, 0, 0, 0), (52, .ireturn, 53, 0, 0, 0), (53, .aload_n 0, 54, 0, 0, 0), (54, .iload_n 1, 55, 0, 0, 0), (55, .iload_n 2, 56, 0, 0, 0), (56, .invokevirtual 83, 59, 149, 3, 7), (59, .invokestatic 86, 62, 150, 1, 0), (62, .istore_n 3, 63, 0, 0, 0), (63, .iload_n 3, 64, 0, 0, 0), (64, .bipush (-9), 66, 9, 1, 0), (66, .if_icmp .eq 12, 69, 78, 0, 0), (69, .aload_n 0, 70, 0, 0, 0), (70, .getfield 80, 73, 7, 15, 0), (73, .bipush 6, 75, 6, 0, 0), (75, .if_icmp .ne 5, 78, 80, 0, 0), (78, .iload_n 2, 79, 0, 0, 0), (79, .ireturn, 80, 0, 0, 0), (80, .aload_n 0, 81, 0, 0, 0), (81, .iload_n 1, 82, 0, 0, 0), (82, .iload_n 2, 83, 0, 0, 0), (83, .iconst 1, 84, 1, 0, 0), (84, .iadd, 85, 0, 0, 0), (85, .invokevirtual 83, 88, 149, 3, 7), (88, .bipush 48, 90, 48, 0, 0), (90, .isub, 91, 0, 0, 0), (91, .istore 4, 93, 0, 0, 0), (93, .iload 4, 95, 0, 0, 0), (95, .iconst 0, 96, 0, 0, 0), (96, .bipush 9, 98, 9, 0, 0), (98, .invokestatic 55, 101, 134, 3, 0), (101, .ifCond .eq 12, 104, 113, 0, 0), (104, .aload_n 0, 105, 0, 0, 0), (105, .iload 4, 107, 0, 0, 0), (107, .invokevirtual 89, 110, 151, 2, 7), (110, .ifCond .eq 7, 113, 117, 0, 0), (113, .iload_n 2, 114, 0, 0, 0), (114, .iconst 1, 115, 1, 0, 0), (115, .iadd, 116, 0, 0, 0), (116, .ireturn, 117, 0, 0, 0), (117, .aload_n 0, 118, 0, 0, 0), (118, .getfield 39, 121, 7, 13, 0), (121, .aload_n 0, 122, 0, 0, 0), (122, .getfield 80, 125, 7, 15, 0), (125, .iload_n 3, 126, 0, 0, 0), (126, .iastore, 127, 0, 0, 0), (127, .aload_n 0, 128, 0, 0, 0), (128, .getfield 42, 131, 7, 14, 0), (131, .aload_n 0, 132, 0, 0, 0), (132, .getfield 80, 135, 7, 15, 0), (135, .iload 4, 137, 0, 0, 0), (137, .iastore, 138, 0, 0, 0), (138, .aload_n 0, 139, 0, 0, 0), (139, .dup, 140, 0, 0, 0), (140, .getfield 80, 143, 7, 15, 0), (143, .iconst 1, 144, 1, 0, 0), (144, .iadd, 145, 0, 0, 0), (145, .putfield 80, 148, 7, 15, 0), (148, .iinc 2 2, 151, 2, 0, 0), (151, .goto (-144), 154, 7, 0, 0)]
theorem ok_M_readText : am_okM 148 cd_M_readText := by unfold am_okM; rw [am_m_148]; decide +kernel
/-- ThingsThrownModel.byteAt(II)I -/
abbrev n_M_byteAt : Nat := 149
def cd_M_byteAt : List Am_E := [(0, .iload_n 2, 1, 0, 0, 0), (1, .aload_n 0, 2, 0, 0, 0), (2, .getfield 29, 5, 7, 7, 0), (5, .iload_n 1, 6, 0, 0, 0), (6, .iaload, 7, 0, 0, 0), (7, .if_icmp .ge 17, 10, 24, 0, 0), (10, .aload_n 0, 11, 0, 0, 0), (11, .getfield 25, 14, 7, 6, 0), (14, .bipush 60, 16, 60, 0, 0), (16, .iload_n 1, 17, 0, 0, 0), (17, .imul, 18, 0, 0, 0), (18, .iload_n 2, 19, 0, 0, 0), (19, .iadd, 20, 0, 0, 0), (20, .baload, 21, 0, 0, 0), (21, .goto 4, 24, 25, 0, 0), (24, .iconst (-1), 25, 1, 1, 0), (25, .ireturn, 26, 0, 0, 0)]
theorem ok_M_byteAt : am_okM 149 cd_M_byteAt := by unfold am_okM; rw [am_m_149]; decide +kernel
end
section
/-! ===== code tables, by program ===== -/
/-- ThingsThrownModel.kindOf(I)I -/
abbrev n_M_kindOf : Nat := 150
def cd_M_kindOf : List Am_E := [(0, .iload_n 0, 1, 0, 0, 0), (1, .tableswitch 107 97 116 #[105, 95, 97, 107, 107, 99, 107, 107, 107, 107, 107, 101, 107, 107, 107, 107, 107, 107, 107, 103], 96, 0, 0, 0), (96, .iconst 0, 97, 0, 0, 0), (97, .ireturn, 98, 0, 0, 0), (98, .iconst 1, 99, 1, 0, 0), (99, .ireturn, 100, 0, 0, 0), (100, .iconst 2, 101, 2, 0, 0), (101, .ireturn, 102, 0, 0, 0), (102, .iconst 3, 103, 3, 0, 0), (103, .ireturn, 104, 0, 0, 0), (104, .iconst 4, 105, 4, 0, 0), (105, .ireturn, 106, 0, 0, 0), (106, .iconst 5, 107, 5, 0, 0), (107, .ireturn, 108, 0, 0, 0), (108, .bipush (-9), 110, 9, 1, 0), (110, .ireturn, 111, 0, 0, 0)]
theorem ok_M_kindOf : am_okM 150 cd_M_kindOf := by unfold am_okM; rw [am_m_150]; decide +kernel
/-- ThingsThrownModel.isDueRead(I)Z -/
abbrev n_M_isDueRead : Nat := 151
def cd_M_isDueRead : List Am_E := [(0, .iconst 0, 1, 0, 0, 0), (1, .istore_n 2, 2, 0, 0, 0), (2, .iconst 0, 3, 0, 0, 0), (3, .istore_n 3, 4, 0, 0, 0), (4, .iload_n 3, 5, 0, 0, 0), (5, .aload_n 0, 6, 0, 0, 0), (6, .getfield 80, 9, 7, 15, 0), (9, .if_icmp .ge 29, 12, 38, 0, 0), (12, .iload_n 2, 13, 0, 0, 0), (13, .ifCond .ne 13, 16, 26, 0, 0), (16, .aload_n 0, 17, 0, 0, 0), (17, .getfield 42, 20, 7, 14, 0), (20, .iload_n 3, 21, 0, 0, 0), (21, .iaload, 22, 0, 0, 0), (22, .iload_n 1, 23, 0, 0, 0), (23, .if_icmp .ne 7, 26, 30, 0, 0), (26, .iconst 1, 27, 1, 0, 0), (27, .goto 4, 30, 31, 0, 0), (30, .iconst 0, 31, 0, 0, 0), (31, .istore_n 2, 32, 0, 0, 0), (32, .iinc 3 1, 35, 1, 0, 0), (35, .goto (-31), 38, 4, 0, 0), (38, .iload_n 2, 39, 0, 0, 0), (39, .ireturn, 40, 0, 0, 0)]
theorem ok_M_isDueRead : am_okM 151 cd_M_isDueRead := by unfold am_okM; rw [am_m_151]; decide +kernel
/-- ThingsThrownModel.things(I)I -/
abbrev n_M_things : Nat := 152
def cd_M_things : List Am_E := [(0, .iload_n 1, 1, 0, 0, 0), (1, .invokestatic 77, 4, 145, 1, 0), (4, .ifCond .ne 5, 7, 9, 0, 0), (7, .iconst (-1), 8, 1, 1, 0), (8, .ireturn, 9, 0, 0, 0), (9, .aload_n 0, 10, 0, 0, 0), (10, .getfield 29, 13, 7, 7, 0), (13, .iload_n 1, 14, 0, 0, 0), (14, .iaload, 15, 0, 0, 0), (15, .ifCond .ge 9, 18, 24, 0, 0), (18, .aload_n 0, 19, 0, 0, 0), (19, .iconst 1, 20, 1, 0, 0), (20, .invokevirtual 63, 23, 135, 2, 7), (23, .ireturn, 24, 0, 0, 0), (24, .aload_n 0, 25, 0, 0, 0), (25, .iload_n 1, 26, 0, 0, 0), (26, .invokevirtual 92, 29, 148, 2, 7), (29, .bipush (-9), 31, 9, 1, 0), (31, .if_icmp .eq 6, 34, 37, 0, 0), (34, .bipush (-4), 36, 4, 1, 0), (36, .ireturn, 37, 0, 0, 0), (37, .aload_n 0, 38, 0, 0, 0), (38, .aload_n 0, 39, 0, 0, 0), (39, .getfield 80, 42, 7, 15, 0), (42, .putfield 95, 45, 7, 2, 0), (45, .iconst 0, 46, 0, 0, 0), (46, .istore_n 2, 47, 0, 0, 0), (47, .iload_n 2, 48, 0, 0, 0), (48, .sipush 534, 51, 534, 0, 0), (51, .if_icmp .ge 16, 54, 67, 0, 0), (54, .aload_n 0, 55, 0, 0, 0), (55, .getfield 7, 58, 7, 0, 0), (58, .iload_n 2, 59, 0, 0, 0), (59, .iconst 0, 60, 0, 0, 0), (60, .iastore, 61, 0, 0, 0), (61, .iinc 2 1, 64, 1, 0, 0), (64, .goto (-17), 67, 47, 0, 0), (67, .iconst 0, 68, 0, 0, 0), (68, .istore_n 2, 69, 0, 0, 0), (69, .iload_n 2, 70, 0, 0, 0), (70, .aload_n 0, 71, 0, 0, 0), (71, .getfield 95, 74, 7, 2, 0), (74, .if_icmp .ge 33, 77, 107, 0, 0), (77, .aload_n 0, 78, 0, 0, 0), (78, .getfield 13, 81, 7, 1, 0), (81, .iload_n 2, 82, 0, 0, 0), (82, .aload_n 0, 83, 0, 0, 0), (83, .getfield 39, 86, 7, 13, 0), (86, .iload_n 2, 87, 0, 0, 0), (87, .iaload, 88, 0, 0, 0), (88, .iastore, 89, 0, 0, 0), (89, .aload_n 0, 90, 0, 0, 0), (90, .getfield 7, 93, 7, 0, 0), (93, .iload_n 2, 94, 0, 0, 0), (94, .aload_n 0, 95, 0, 0, 0), (95, .getfield 42, 98, 7, 14, 0), (98, .iload_n 2, 99, 0, 0, 0), (99, .iaload, 100, 0, 0, 0), (100, .iastore, 101, 0, 0, 0), (101, .iinc 2 1, 104, 1, 0, 0), (104, .goto (-35), 107, 69, 0, 0), (107, .iconst 0, 108, 0, 0, 0), (108, .istore_n 2, 109, 0, 0, 0), (109, .iload_n 2, 110, 0, 0, 0), (110, .iconst 3, 111, 3, 0, 0), (111, .if_icmp .ge 16, 114, 127, 0, 0), (114, .aload_n 0, 115, 0, 0, 0), (115, .getfield 16, 118, 7, 3, 0), (118, .iload_n 2, 119, 0, 0, 0), (119, .iconst (-1), 120, 1, 1, 0), (120, .iastore, 121, 0, 0, 0), (121, .iinc 2 1, 124, 1, 0, 0), (124, .goto (-15), 127, 109, 0, 0), (127, .aload_n 0, 128, 0, 0, 0), (128, .getfield 95, 131, 7, 2, 0), (131, .ireturn, 132, 0, 0, 0)]
theorem ok_M_things : am_okM 152 cd_M_things := by unfold am_okM; rw [am_m_152]; decide +kernel
/-- ThingsThrownModel.thing(II)I -/
abbrev n_M_thing : Nat := 153
def cd_M_thing : List Am_E := [(0, .aload_n 0, 1, 0, 0, 0), (1, .iload_n 1, 2, 0, 0, 0), (2, .invokevirtual 101, 5, 154, 2, 7), (5, .ifCond .eq 12, 8, 17, 0, 0), (8, .iload_n 2, 9, 0, 0, 0), (9, .iconst 0, 10, 0, 0, 0), (10, .iconst 3, 11, 3, 0, 0), (11, .invokestatic 55, 14, 134, 3, 0), (14, .ifCond .ne 5, 17, 19, 0, 0), (17, .iconst (-1), 18, 1, 1, 0), (18, .ireturn, 19, 0, 0, 0), (19, .aload_n 0, 20, 0, 0, 0), (20, .iload_n 2, 21, 0, 0, 0), (21, .ifCond .ne 12, 24, 33, 0, 0), (24, .aload_n 0, 25, 0, 0, 0), (25, .getfield 13, 28, 7, 1, 0), (28, .iload_n 1, 29, 0, 0, 0), (29, .iaload, 30, 0, 0, 0), (30, .goto 43, 33, 73, 0, 0), (33, .iload_n 2, 34, 0, 0, 0), (34, .iconst 1, 35, 1, 0, 0), (35, .if_icmp .ne 12, 38, 47, 0, 0), (38, .aload_n 0, 39, 0, 0, 0), (39, .getfield 7, 42, 7, 0, 0), (42, .iload_n 1, 43, 0, 0, 0), (43, .iaload, 44, 0, 0, 0), (44, .goto 29, 47, 73, 0, 0), (47, .iload_n 2, 48, 0, 0, 0), (48, .iconst 2, 49, 2, 0, 0), (49, .if_icmp .ne 15, 52, 64, 0, 0), (52, .aload_n 0, 53, 0, 0, 0), (53, .getfield 13, 56, 7, 1, 0), (56, .iload_n 1, 57, 0, 0, 0), (57, .iaload, 58, 0, 0, 0), (58, .invokestatic 104, 61, 155, 1, 0), (61, .goto 12, 64, 73, 0, 0), (64, .aload_n 0, 65, 0, 0, 0), (65, .getfield 7, 68, 7, 0, 0), (68, .bipush 6, 70, 6, 0, 0), (70, .iload_n 1, 71, 0, 0, 0), (71, .iadd, 72, 0, 0, 0), (72, .iaload, 73, 0, 0, 0), (73, .invokevirtual 71, 76, 138, 2, 7), (76, .ireturn, 77, 0, 0, 0)]
theorem ok_M_thing : am_okM 153 cd_M_thing := by unfold am_okM; rw [am_m_153]; decide +kernel
/-- ThingsThrownModel.isThing(I)Z -/
abbrev n_M_isThing : Nat := 154
def cd_M_isThing : List Am_E := [(0, .iload_n 1, 1, 0, 0, 0), (1, .iconst 0, 2, 0, 0, 0), (2, .aload_n 0, 3, 0, 0, 0), (3, .getfield 95, 6, 7, 2, 0), (6, .iconst 1, 7, 1, 0, 0), (7, .isub, 8, 0, 0, 0), (8, .invokestatic 55, 11, 134, 3, 0), (11, .ireturn, 12, 0, 0, 0)]
theorem ok_M_isThing : am_okM 154 cd_M_isThing := by unfold am_okM; rw [am_m_154]; decide +kernel
/-- ThingsThrownModel.heightsOf(I)I -/
abbrev n_M_heightsOf : Nat := 155
def cd_M_heightsOf : List Am_E := [(0, .iconst 0, 1, 0, 0, 0), (1, .istore_n 1, 2, 0, 0, 0), (2, .iconst 1, 3, 1, 0, 0), (3, .istore_n 2, 4, 0, 0, 0), (4, .iload_n 2, 5, 0, 0, 0), (5, .bipush 7, 7, 7, 0, 0), (7, .if_icmp .gt 29, 10, 36, 0, 0), (10, .iload_n 1, 11, 0, 0, 0), (11, .iload_n 0, 12, 0, 0, 0), (12, .iload_n 2, 13, 0, 0, 0), (13, .invokestatic 98, 16, 156, 2, 0), (16, .bipush (-9), 18, 9, 1, 0), (18, .if_icmp .eq 9, 21, 27, 0, 0), (21, .iconst 1, 22, 1, 0, 0), (22, .iload_n 2, 23, 0, 0, 0), (23, .ishl, 24, 0, 0, 0), (24, .goto 4, 27, 28, 0, 0), (27, .iconst 0, 28, 0, 0, 0), (28, .ior, 29, 0, 0, 0), (29, .istore_n 1, 30, 0, 0, 0), (30, .iinc 2 1, 33, 1, 0, 0), (33, .goto (-29), 36, 4, 0, 0), (36, .iload_n 1, 37, 0, 0, 0), (37, .ireturn, 38, 0, 0, 0)]
theorem ok_M_heightsOf : am_okM 155 cd_M_heightsOf := by unfold am_okM; rw [am_m_155]; decide +kernel
/-- ThingsThrownModel.landing(II)I -/
abbrev n_M_landing : Nat := 156
def cd_M_landing : List Am_E := [(0, .iload_n 0, 1, 0, 0, 0), (1, .tableswitch 76 0 4 #[35, 37, 43, 47, 60], 36, 0, 0, 0), (36, .iload_n 1, 37, 0, 0, 0), (37, .ireturn, 38, 0, 0, 0), (38, .iload_n 1, 39, 0, 0, 0), (39, .iload_n 1, 40, 0, 0, 0), (40, .iconst 2, 41, 2, 0, 0), (41, .irem, 42, 0, 0, 0), (42, .iadd, 43, 0, 0, 0), (43, .ireturn, 44, 0, 0, 0), (44, .iconst 2, 45, 2, 0, 0), (45, .iload_n 1, 46, 0, 0, 0), (46, .imul, 47, 0, 0, 0), (47, .ireturn, 48, 0, 0, 0), (48, .iload_n 1, 49, 0, 0, 0), (49, .iconst 1, 50, 1, 0, 0), (50, .if_icmp .le 9, 53, 59, 0, 0), (53, .iload_n 1, 54, 0, 0, 0), (54, .iconst 1, 55, 1, 0, 0), (55, .isub, 56, 0, 0, 0), (56, .goto 4, 59, 60, 0, 0), (59, .iconst 1, 60, 1, 0, 0), (60, .ireturn, 61, 0, 0, 0), (61, .iload_n 1, 62, 0, 0, 0), (62, .iconst 3, 63, 3, 0, 0), (63, .if_icmp .ge 8, 66, 71, 0, 0), (66, .bipush (-9), 68, 9, 1, 0), (68, .goto 8, 71, 76, 0, 0), (71, .iload_n 1, 72, 0, 0, 0), (72, .iload_n 1, 73, 0, 0, 0), (73, .iconst 2, 74, 2, 0, 0), (74, .irem, 75, 0, 0, 0), (75, .iadd, 76, 0, 0, 0), (76, .ireturn, 77, 0, 0, 0), (77, .iload_n 1, 78, 0, 0, 0), (78, .iconst 4, 79, 4, 0, 0), (79, .if_icmp .le 8, 82, 87, 0, 0), (82, .bipush (-9), 84, 9, 1, 0), (84, .goto 15, 87, 99, 0, 0), (87, .iload_n 1, 88, 0, 0, 0), (88, .iconst 1, 89, 1, 0, 0), (89, .if_icmp .le 9, 92, 98, 0, 0), (92, .iload_n 1, 93, 0, 0, 0), (93, .iconst 1, 94, 1, 0, 0), (94, .isub, 95, 0, 0, 0), (95, .goto 4, 98, 99, 0, 0), (98, .iconst 1, 99, 1, 0, 0), (99, .ireturn, 100, 0, 0, 0)]
theorem ok_M_landing : am_okM 156 cd_M_landing := by unfold am_okM; rw [am_m_156]; decide +kernel
/-- ThingsThrownModel.mark(II)I -/
abbrev n_M_mark : Nat := 157
def cd_M_mark : List Am_E := [(0, .aload_n 0, 1, 0, 0, 0), (1, .iload_n 1, 2, 0, 0, 0), (2, .invokevirtual 101, 5, 154, 2, 7), (5, .ifCond .eq 12, 8, 17, 0, 0), (8, .iload_n 2, 9, 0, 0, 0), (9, .iconst 1, 10, 1, 0, 0), (10, .iconst 5, 11, 5, 0, 0), (11, .invokestatic 55, 14, 134, 3, 0), (14, .ifCond .ne 5, 17, 19, 0, 0), (17, .iconst (-1), 18, 1, 1, 0), (18, .ireturn, 19, 0, 0, 0), (19, .aload_n 0, 20, 0, 0, 0), (20, .getfield 13, 23, 7, 1, 0), (23, .iload_n 1, 24, 0, 0, 0), (24, .iaload, 25, 0, 0, 0), (25, .iload_n 2, 26, 0, 0, 0), (26, .if_icmp .eq 33, 29, 59, 0, 0), (29, .iload_n 2, 30, 0, 0, 0), (30, .iconst 1, 31, 1, 0, 0), (31, .if_icmp .ne 13, 34, 44, 0, 0), (34, .aload_n 0, 35, 0, 0, 0), (35, .getfield 13, 38, 7, 1, 0), (38, .iload_n 1, 39, 0, 0, 0), (39, .iaload, 40, 0, 0, 0), (40, .iconst 4, 41, 4, 0, 0), (41, .if_icmp .eq 18, 44, 59, 0, 0), (44, .iload_n 2, 45, 0, 0, 0), (45, .iconst 3, 46, 3, 0, 0), (46, .if_icmp .ne 17, 49, 63, 0, 0), (49, .aload_n 0, 50, 0, 0, 0), (50, .getfield 13, 53, 7, 1, 0), (53, .iload_n 1, 54, 0, 0, 0), (54, .iaload, 55, 0, 0, 0), (55, .iconst 5, 56, 5, 0, 0), (56, .if_icmp .ne 7, 59, 63, 0, 0), (59, .iconst 1, 60, 1, 0, 0), (60, .goto 4, 63, 64, 0, 0), (63, .iconst 0, 64, 0, 0, 0), (64, .istore_n 3, 65, 0, 0, 0), (65, .iload_n 3, 66, 0, 0, 0), (66, .ifCond .ne 9, 69, 75, 0, 0), (69, .aload_n 0, 70, 0, 0, 0), (70, .iconst 3, 71, 3, 0, 0), (71, .invokevirtual 63, 74, 135, 2, 7), (74, .ireturn, 75, 0, 0, 0), (75, .iload_n 2, 76, 0, 0, 0), (76, .tableswitch 69 1 4 #[32, 43, 52, 63], 108, 0, 0, 0), (108, .aload_n 0, 109, 0, 0, 0), (109, .getfield 13, 112, 7, 1, 0), (112, .iload_n 1, 113, 0, 0, 0), (113, .iaload, 114, 0, 0, 0), (114, .iconst 1, 115, 1, 0, 0), (115, .invokestatic 107, 118, 158, 2, 0), (118, .ireturn, 119, 0, 0, 0), (119, .aload_n 0, 120, 0, 0, 0), (120, .getfield 7, 123, 7, 0, 0), (123, .iload_n 1, 124, 0, 0, 0), (124, .iaload, 125, 0, 0, 0), (125, .iconst 2, 126, 2, 0, 0), (126, .idiv, 127, 0, 0, 0), (127, .ireturn, 128, 0, 0, 0), (128, .aload_n 0, 129, 0, 0, 0), (129, .getfield 13, 132, 7, 1, 0), (132, .iload_n 1, 133, 0, 0, 0), (133, .iaload, 134, 0, 0, 0), (134, .iconst (-1), 135, 1, 1, 0), (135, .invokestatic 107, 138, 158, 2, 0), (138, .ireturn, 139, 0, 0, 0), (139, .aload_n 0, 140, 0, 0, 0), (140, .iload_n 1, 141, 0, 0, 0), (141, .invokevirtual 110, 144, 159, 2, 7), (144, .ireturn, 145, 0, 0, 0), (145, .aload_n 0, 146, 0, 0, 0), (146, .iload_n 1, 147, 0, 0, 0), (147, .invokevirtual 113, 150, 160, 2, 7), (150, .ireturn, 151, 0, 0, 0)]
theorem ok_M_mark : am_okM 157 cd_M_mark := by unfold am_okM; rw [am_m_157]; decide +kernel
/-- ThingsThrownModel.unlikeBall(II)I -/
abbrev n_M_unlikeBall : Nat := 158
def cd_M_unlikeBall : List Am_E := [(0, .iconst 0, 1, 0, 0, 0), (1, .istore_n 2, 2, 0, 0, 0), (2, .iconst 1, 3, 1, 0, 0), (3, .istore_n 3, 4, 0, 0, 0), (4, .iload_n 3, 5, 0, 0, 0), (5, .bipush 7, 7, 7, 0, 0), (7, .if_icmp .gt 50, 10, 57, 0, 0), (10, .iload_n 0, 11, 0, 0, 0), (11, .iload_n 3, 12, 0, 0, 0), (12, .invokestatic 98, 15, 156, 2, 0), (15, .istore 4, 17, 0, 0, 0), (17, .iload_n 2, 18, 0, 0, 0), (18, .iload 4, 20, 0, 0, 0), (20, .bipush (-9), 22, 9, 1, 0), (22, .if_icmp .eq 26, 25, 48, 0, 0), (25, .iload_n 1, 26, 0, 0, 0), (26, .ifCond .le 12, 29, 38, 0, 0), (29, .iload 4, 31, 0, 0, 0), (31, .iload_n 3, 32, 0, 0, 0), (32, .if_icmp .le 16, 35, 48, 0, 0), (35, .goto 9, 38, 44, 0, 0), (38, .iload 4, 40, 0, 0, 0), (40, .iload_n 3, 41, 0, 0, 0), (41, .if_icmp .ge 7, 44, 48, 0, 0), (44, .iconst 1, 45, 1, 0, 0), (45, .goto 4, 48, 49, 0, 0), (48, .iconst 0, 49, 0, 0, 0), (49, .iadd, 50, 0, 0, 0), (50, .istore_n 2, 51, 0, 0, 0), (51, .iinc 3 1, 54, 1, 0, 0), (54, .goto (-50), 57, 4, 0, 0), (57, .iload_n 2, 58, 0, 0, 0), (58, .ireturn, 59, 0, 0, 0)]
theorem ok_M_unlikeBall : am_okM 158 cd_M_unlikeBall := by unfold am_okM; rw [am_m_158]; decide +kernel
/-- ThingsThrownModel.torchesAhead(I)I -/
abbrev n_M_torchesAhead : Nat := 159
def cd_M_torchesAhead : List Am_E := [(0, .iconst 0, 1, 0, 0, 0), (1, .istore_n 2, 2, 0, 0, 0), (2, .iconst 0, 3, 0, 0, 0), (3, .istore_n 3, 4, 0, 0, 0), (4, .iload_n 3, 5, 0, 0, 0), (5, .aload_n 0, 6, 0, 0, 0), (6, .getfield 95, 9, 7, 2, 0), (9, .if_icmp .ge 42, 12, 51, 0, 0), (12, .iload_n 2, 13, 0, 0, 0), (13, .aload_n 0, 14, 0, 0, 0), (14, .getfield 13, 17, 7, 1, 0), (17, .iload_n 3, 18, 0, 0, 0), (18, .iaload, 19, 0, 0, 0), (19, .iconst 4, 20, 4, 0, 0), (20, .if_icmp .ne 22, 23, 42, 0, 0), (23, .aload_n 0, 24, 0, 0, 0), (24, .getfield 7, 27, 7, 0, 0), (27, .iload_n 3, 28, 0, 0, 0), (28, .iaload, 29, 0, 0, 0), (29, .aload_n 0, 30, 0, 0, 0), (30, .getfield 7, 33, 7, 0, 0), (33, .iload_n 1, 34, 0, 0, 0), (34, .iaload, 35, 0, 0, 0), (35, .if_icmp .ge 7, 38, 42, 0, 0), (38, .iconst 1, 39, 1, 0, 0), (39, .goto 4, 42, 43, 0, 0), (42, .iconst 0, 43, 0, 0, 0), (43, .iadd, 44, 0, 0, 0), (44, .istore_n 2, 45, 0, 0, 0), (45, .iinc 3 1, 48, 1, 0, 0), (48, .goto (-44), 51, 4, 0, 0), (51, .iload_n 2, 52, 0, 0, 0), (52, .ireturn, 53, 0, 0, 0)]
theorem ok_M_torchesAhead : am_okM 159 cd_M_torchesAhead := by unfold am_okM; rw [am_m_159]; decide +kernel
/-- ThingsThrownModel.thingsBehind(I)I -/
abbrev n_M_thingsBehind : Nat := 160
def cd_M_thingsBehind : List Am_E := [(0, .iconst 0, 1, 0, 0, 0), (1, .istore_n 2, 2, 0, 0, 0), (2, .iconst 0, 3, 0, 0, 0), (3, .istore_n 3, 4, 0, 0, 0), (4, .iload_n 3, 5, 0, 0, 0), (5, .aload_n 0, 6, 0, 0, 0), (6, .getfield 95, 9, 7, 2, 0), (9, .if_icmp .ge 32, 12, 41, 0, 0), (12, .iload_n 2, 13, 0, 0, 0), (13, .aload_n 0, 14, 0, 0, 0), (14, .getfield 7, 17, 7, 0, 0), (17, .iload_n 3, 18, 0, 0, 0), (18, .iaload, 19, 0, 0, 0), (19, .aload_n 0, 20, 0, 0, 0), (20, .getfield 7, 23, 7, 0, 0), (23, .iload_n 1, 24, 0, 0, 0), (24, .iaload, 25, 0, 0, 0), (25, .if_icmp .le 7, 28, 32, 0, 0), (28, .iconst 1, 29, 1, 0, 0), (29, .goto 4, 32, 33, 0, 0), (32, .iconst 0, 33, 0, 0, 0), (33, .iadd, 34, 0, 0, 0), (34, .istore_n 2, 35, 0, 0, 0), (35, .iinc 3 1, 38, 1, 0, 0), (38, .goto (-34), 41, 4, 0, 0), (41, .iload_n 2, 42, 0, 0, 0), (42, .ireturn, 43, 0, 0, 0)]
theorem ok_M_thingsBehind : am_okM 160 cd_M_thingsBehind := by unfold am_okM; rw [am_m_160]; decide +kernel
/-- ThingsThrownModel.toss(I)I -/
abbrev n_M_toss : Nat := 161
def cd_M_toss : List Am_E := [(0, .iload_n 1, 1, 0, 0, 0), (1, .invokestatic 137, 4, 162, 1, 0), (4, .ifCond .ne 5, 7, 9, 0, 0), (7, .iconst (-1), 8, 1, 1, 0), (8, .ireturn, 9, 0, 0, 0), (9, .aload_n 0, 10, 0, 0, 0), (10, .iconst 0, 11, 0, 0, 0), (11, .iload_n 1, 12, 0, 0, 0), (12, .invokevirtual 126, 15, 163, 3, 7), (15, .ifCond .ne 6, 18, 21, 0, 0), (18, .bipush (-4), 20, 4, 1, 0), (20, .ireturn, 21, 0, 0, 0), (21, .aload_n 0, 22, 0, 0, 0), (22, .getfield 7, 25, 7, 0, 0), (25, .sipush 533, 28, 533, 0, 0), (28, .iaload, 29, 0, 0, 0), (29, .bipush 40, 31, 40, 0, 0), (31, .if_icmp .ne 6, 34, 37, 0, 0), (34, .bipush (-2), 36, 2, 1, 0), (36, .ireturn, 37, 0, 0, 0), (37, .aload_n 0, 38, 0, 0, 0), (38, .invokevirtual 140, 41, 167, 1, 7), (41, .aload_n 0, 42, 0, 0, 0), (42, .iconst 0, 43, 0, 0, 0), (43, .iload_n 1, 44, 0, 0, 0), (44, .invokevirtual 143, 47, 169, 3, 7), (47, .aload_n 0, 48, 0, 0, 0), (48, .iconst 0, 49, 0, 0, 0), (49, .invokevirtual 119, 52, 165, 2, 7), (52, .ireturn, 53, 0, 0, 0)]
theorem ok_M_toss : am_okM 161 cd_M_toss := by unfold am_okM; rw [am_m_161]; decide +kernel
/-- ThingsThrownModel.isHeight(I)Z -/
abbrev n_M_isHeight : Nat := 162
def cd_M_isHeight : List Am_E := [(0, .iload_n 0, 1, 0, 0, 0), (1, .iconst 1, 2, 1, 0, 0), (2, .bipush 7, 4, 7, 0, 0), (4, .invokestatic 55, 7, 134, 3, 0), (7, .ireturn, 8, 0, 0, 0)]
theorem ok_M_isHeight : am_okM 162 cd_M_isHeight := by unfold am_okM; rw [am_m_162]; decide +kernel
/-- ThingsThrownModel.mayAt(II)Z -/
abbrev n_M_mayAt : Nat := 163
def cd_M_mayAt : List Am_E := [(0, .aload_n 0, 1, 0, 0, 0), (1, .iload_n 1, 2, 0, 0, 0), (2, .invokevirtual 116, 5, 164, 2, 7), (5, .istore_n 3, 6, 0, 0, 0), (6, .iload_n 3, 7, 0, 0, 0), (7, .bipush (-9), 9, 9, 1, 0), (9, .if_icmp .ne 8, 12, 17, 0, 0), (12, .bipush (-9), 14, 9, 1, 0), (14, .goto 13, 17, 27, 0, 0), (17, .aload_n 0, 18, 0, 0, 0), (18, .getfield 13, 21, 7, 1, 0), (21, .iload_n 3, 22, 0, 0, 0), (22, .iaload, 23, 0, 0, 0), (23, .iload_n 2, 24, 0, 0, 0), (24, .invokestatic 98, 27, 156, 2, 0), (27, .istore 4, 29, 0, 0, 0), (29, .iload 4, 31, 0, 0, 0), (31, .bipush (-9), 33, 9, 1, 0), (33, .if_icmp .eq 20, 36, 53, 0, 0), (36, .aload_n 0, 37, 0, 0, 0), (37, .iload_n 1, 38, 0, 0, 0), (38, .invokevirtual 119, 41, 165, 2, 7), (41, .iload 4, 43, 0, 0, 0), (43, .invokestatic 122, 46, 166, 2, 0), (46, .ifCond .ne 7, 49, 53, 0, 0), (49, .iconst 1, 50, 1, 0, 0), (50, .goto 4, 53, 54, 0, 0), (53, .iconst 0, 54, 0, 0, 0), (54, .ireturn, 55, 0, 0, 0)]
theorem ok_M_mayAt : am_okM 163 cd_M_mayAt := by unfold am_okM; rw [am_m_163]; decide +kernel
/-- ThingsThrownModel.dueAt(I)I -/
abbrev n_M_dueAt : Nat := 164
def cd_M_dueAt : List Am_E := [(0, .iconst 0, 1, 0, 0, 0), (1, .istore_n 2, 2, 0, 0, 0), (2, .iload_n 2, 3, 0, 0, 0), (3, .aload_n 0, 4, 0, 0, 0), (4, .getfield 95, 7, 7, 2, 0), (7, .if_icmp .ge 22, 10, 29, 0, 0), (10, .aload_n 0, 11, 0, 0, 0), (11, .getfield 7, 14, 7, 0, 0), (14, .iload_n 1, 15, 0, 0, 0), (15, .iload_n 2, 16, 0, 0, 0), (16, .iadd, 17, 0, 0, 0), (17, .iaload, 18, 0, 0, 0), (18, .ifCond .ne 5, 21, 23, 0, 0), (21, .iload_n 2, 22, 0, 0, 0), (22, .ireturn, 23, 0, 0, 0), (23, .iinc 2 1, 26, 1, 0, 0), (26, .goto (-24), 29, 2, 0, 0), (29, .bipush (-9), 31, 9, 1, 0), (31, .ireturn, 32, 0, 0, 0)]
theorem ok_M_dueAt : am_okM 164 cd_M_dueAt := by unfold am_okM; rw [am_m_164]; decide +kernel
/-- ThingsThrownModel.skyAt(I)I -/
abbrev n_M_skyAt : Nat := 165
def cd_M_skyAt : List Am_E := [(0, .iconst 0, 1, 0, 0, 0), (1, .istore_n 2, 2, 0, 0, 0), (2, .iconst 0, 3, 0, 0, 0), (3, .istore_n 3, 4, 0, 0, 0), (4, .iload_n 3, 5, 0, 0, 0), (5, .aload_n 0, 6, 0, 0, 0), (6, .getfield 95, 9, 7, 2, 0), (9, .if_icmp .ge 22, 12, 31, 0, 0), (12, .iload_n 2, 13, 0, 0, 0), (13, .iconst 1, 14, 1, 0, 0), (14, .aload_n 0, 15, 0, 0, 0), (15, .getfield 7, 18, 7, 0, 0), (18, .iload_n 1, 19, 0, 0, 0), (19, .iload_n 3, 20, 0, 0, 0), (20, .iadd, 21, 0, 0, 0), (21, .iaload, 22, 0, 0, 0), (22, .ishl, 23, 0, 0, 0), (23, .ior, 24, 0, 0, 0), (24, .istore_n 2, 25, 0, 0, 0), (25, .iinc 3 1, 28, 1, 0, 0), (28, .goto (-24), 31, 4, 0, 0), (31, .iload_n 2, 32, 0, 0, 0), (32, .ireturn, 33, 0, 0, 0)]
theorem ok_M_skyAt : am_okM 165 cd_M_skyAt := by unfold am_okM; rw [am_m_165]; decide +kernel
/-- ThingsThrownModel.has(II)Z -/
abbrev n_M_has : Nat := 166
def cd_M_has : List Am_E := [(0, .iload_n 0, 1, 0, 0, 0), (1, .iload_n 1, 2, 0, 0, 0), (2, .ishr, 3, 0, 0, 0), (3, .iconst 1, 4, 1, 0, 0), (4, .iand, 5, 0, 0, 0), (5, .iconst 1, 6, 1, 0, 0), (6, .if_icmp .ne 7, 9, 13, 0, 0), (9, .iconst 1, 10, 1, 0, 0), (10, .goto 4, 13, 14, 0, 0), (13, .iconst 0, 14, 0, 0, 0), (14, .ireturn, 15, 0, 0, 0)]
theorem ok_M_has : am_okM 166 cd_M_has := by unfold am_okM; rw [am_m_166]; decide +kernel
/-- ThingsThrownModel.remember()V -/
abbrev n_M_remember : Nat := 167
def cd_M_remember : List Am_E := [(0, .aload_n 0, 1, 0, 0, 0), (1, .iconst 0, 2, 0, 0, 0), (2, .bipush 13, 4, 13, 0, 0), (4, .bipush 13, 6, 13, 0, 0), (6, .aload_n 0, 7, 0, 0, 0), (7, .getfield 7, 10, 7, 0, 0), (10, .sipush 533, 13, 533, 0, 0), (13, .iaload, 14, 0, 0, 0), (14, .imul, 15, 0, 0, 0), (15, .iadd, 16, 0, 0, 0), (16, .bipush 13, 18, 13, 0, 0), (18, .invokevirtual 133, 21, 168, 4, 7), (21, .aload_n 0, 22, 0, 0, 0), (22, .getfield 7, 25, 7, 0, 0), (25, .sipush 533, 28, 533, 0, 0), (28, .dup2, 29, 0, 0, 0), (29, .iaload, 30, 0, 0, 0), (30, .iconst 1, 31, 1, 0, 0), (31, .iadd, 32, 0, 0, 0), (32, .iastore, 33, 0, 0, 0), (33, .return_, 34, 0, 0, 0)]
theorem ok_M_remember : am_okM 167 cd_M_remember := by unfold am_okM; rw [am_m_167]; decide +kernel
/-- ThingsThrownModel.copyRow(III)V -/
abbrev n_M_copyRow : Nat := 168
def cd_M_copyRow : List Am_E := [(0, .iconst 0, 1, 0, 0, 0), (1, .istore 4, 3, 0, 0, 0), (3, .iload 4, 5, 0, 0, 0), (5, .iload_n 3, 6, 0, 0, 0), (6, .if_icmp .ge 27, 9, 33, 0, 0), (9, .aload_n 0, 10, 0, 0, 0), (10, .getfield 7, 13, 7, 0, 0), (13, .iload_n 2, 14, 0, 0, 0), (14, .iload 4, 16, 0, 0, 0), (16, .iadd, 17, 0, 0, 0), (17, .aload_n 0, 18, 0, 0, 0), (18, .getfield 7, 21, 7, 0, 0), (21, .iload_n 1, 22, 0, 0, 0), (22, .iload 4, 24, 0, 0, 0), (24, .iadd, 25, 0, 0, 0), (25, .iaload, 26, 0, 0, 0), (26, .iastore, 27, 0, 0, 0), (27, .iinc 4 1, 30, 1, 0, 0), (30, .goto (-27), 33, 3, 0, 0), (33, .return_, 34, 0, 0, 0)]
theorem ok_M_copyRow : am_okM 168 cd_M_copyRow := by unfold am_okM; rw [am_m_168]; decide +kernel
/-- ThingsThrownModel.tossAt(II)V -/
abbrev n_M_tossAt : Nat := 169
def cd_M_tossAt : List Am_E := [(0, .aload_n 0, 1, 0, 0, 0), (1, .iload_n 1, 2, 0, 0, 0), (2, .invokevirtual 116, 5, 164, 2, 7), (5, .istore_n 3, 6, 0, 0, 0), (6, .aload_n 0, 7, 0, 0, 0), (7, .getfield 7, 10, 7, 0, 0), (10, .iload_n 1, 11, 0, 0, 0), (11, .iload_n 3, 12, 0, 0, 0), (12, .iadd, 13, 0, 0, 0), (13, .aload_n 0, 14, 0, 0, 0), (14, .getfield 13, 17, 7, 1, 0), (17, .iload_n 3, 18, 0, 0, 0), (18, .iaload, 19, 0, 0, 0), (19, .iload_n 2, 20, 0, 0, 0), (20, .invokestatic 98, 23, 156, 2, 0), (23, .iastore, 24, 0, 0, 0), (24, .aload_n 0, 25, 0, 0, 0), (25, .getfield 7, 28, 7, 0, 0), (28, .iload_n 1, 29, 0, 0, 0), (29, .bipush 6, 31, 6, 0, 0), (31, .iadd, 32, 0, 0, 0), (32, .iload_n 3, 33, 0, 0, 0), (33, .iadd, 34, 0, 0, 0), (34, .dup2, 35, 0, 0, 0), (35, .iaload, 36, 0, 0, 0), (36, .iconst 1, 37, 1, 0, 0), (37, .iadd, 38, 0, 0, 0), (38, .iastore, 39, 0, 0, 0), (39, .aload_n 0, 40, 0, 0, 0), (40, .iload_n 1, 41, 0, 0, 0), (41, .invokevirtual 129, 44, 170, 2, 7), (44, .return_, 45, 0, 0, 0)]
theorem ok_M_tossAt : am_okM 169 cd_M_tossAt := by unfold am_okM; rw [am_m_169]; decide +kernel
/-- ThingsThrownModel.later(I)V -/
abbrev n_M_later : Nat := 170
def cd_M_later : List Am_E := [(0, .iconst 0, 1, 0, 0, 0), (1, .istore_n 2, 2, 0, 0, 0), (2, .iload_n 2, 3, 0, 0, 0), (3, .aload_n 0, 4, 0, 0, 0), (4, .getfield 95, 7, 7, 2, 0), (7, .if_icmp .ge 21, 10, 28, 0, 0), (10, .aload_n 0, 11, 0, 0, 0), (11, .getfield 7, 14, 7, 0, 0), (14, .iload_n 1, 15, 0, 0, 0), (15, .iload_n 2, 16, 0, 0, 0), (16, .iadd, 17, 0, 0, 0), (17, .dup2, 18, 0, 0, 0), (18, .iaload, 19, 0, 0, 0), (19, .iconst 1, 20, 1, 0, 0), (20, .isub, 21, 0, 0, 0), (21, .iastore, 22, 0, 0, 0), (22, .iinc 2 1, 25, 1, 0, 0), (25, .goto (-23), 28, 2, 0, 0), (28, .aload_n 0, 29, 0, 0, 0), (29, .getfield 7, 32, 7, 0, 0), (32, .iload_n 1, 33, 0, 0, 0), (33, .bipush 12, 35, 12, 0, 0), (35, .iadd, 36, 0, 0, 0), (36, .dup2, 37, 0, 0, 0), (37, .iaload, 38, 0, 0, 0), (38, .iconst 1, 39, 1, 0, 0), (39, .iadd, 40, 0, 0, 0), (40, .iastore, 41, 0, 0, 0), (41, .return_, 42, 0, 0, 0)]
theorem ok_M_later : am_okM 170 cd_M_later := by unfold am_okM; rw [am_m_170]; decide +kernel
/-- ThingsThrownModel.rest()I -/
abbrev n_M_rest : Nat := 171
def cd_M_rest : List Am_E := [(0, .aload_n 0, 1, 0, 0, 0), (1, .getfield 95, 4, 7, 2, 0), (4, .ifCond .eq 13, 7, 17, 0, 0), (7, .aload_n 0, 8, 0, 0, 0), (8, .iconst 0, 9, 0, 0, 0), (9, .invokevirtual 116, 12, 164, 2, 7), (12, .bipush (-9), 14, 9, 1, 0), (14, .if_icmp .eq 6, 17, 20, 0, 0), (17, .bipush (-4), 19, 4, 1, 0), (19, .ireturn, 20, 0, 0, 0), (20, .aload_n 0, 21, 0, 0, 0), (21, .getfield 7, 24, 7, 0, 0), (24, .sipush 533, 27, 533, 0, 0), (27, .iaload, 28, 0, 0, 0), (28, .bipush 40, 30, 40, 0, 0), (30, .if_icmp .ne 6, 33, 36, 0, 0), (33, .bipush (-2), 35, 2, 1, 0), (35, .ireturn, 36, 0, 0, 0), (36, .aload_n 0, 37, 0, 0, 0), (37, .invokevirtual 140, 40, 167, 1, 7), (40, .aload_n 0, 41, 0, 0, 0), (41, .iconst 0, 42, 0, 0, 0), (42, .invokevirtual 129, 45, 170, 2, 7), (45, .aload_n 0, 46, 0, 0, 0), (46, .iconst 0, 47, 0, 0, 0), (47, .invokevirtual 119, 50, 165, 2, 7), (50, .ireturn, 51, 0, 0, 0)]
theorem ok_M_rest : am_okM 171 cd_M_rest := by unfold am_okM; rw [am_m_171]; decide +kernel
/-- ThingsThrownModel.exchange(II)I -/
abbrev n_M_exchange : Nat := 172
def cd_M_exchange : List Am_E := [(0, .aload_n 0, 1, 0, 0, 0), (1, .iload_n 1, 2, 0, 0, 0), (2, .invokevirtual 101, 5, 154, 2, 7), (5, .ifCond .eq 16, 8, 21, 0, 0), (8, .aload_n 0, 9, 0, 0, 0), (9, .iload_n 2, 10, 0, 0, 0), (10, .invokevirtual 101, 13, 154, 2, 7), (13, .ifCond .eq 8, 16, 21, 0, 0), (16, .iload_n 1, 17, 0, 0, 0), (17, .iload_n 2, 18, 0, 0, 0), (18, .if_icmp .ne 5, 21, 23, 0, 0), (21, .iconst (-1), 22, 1, 1, 0), (22, .ireturn, 23, 0, 0, 0), (23, .aload_n 0, 24, 0, 0, 0), (24, .getfield 7, 27, 7, 0, 0), (27, .sipush 533, 30, 533, 0, 0), (30, .iaload, 31, 0, 0, 0), (31, .bipush 40, 33, 40, 0, 0), (33, .if_icmp .ne 6, 36, 39, 0, 0), (36, .bipush (-2), 38, 2, 1, 0), (38, .ireturn, 39, 0, 0, 0), (39, .aload_n 0, 40, 0, 0, 0), (40, .invokevirtual 140, 43, 167, 1, 7), (43, .aload_n 0, 44, 0, 0, 0), (44, .iload_n 1, 45, 0, 0, 0), (45, .iload_n 2, 46, 0, 0, 0), (46, .invokevirtual 147, 49, 173, 3, 7), (49, .aload_n 0, 50, 0, 0, 0), (50, .iconst 0, 51, 0, 0, 0), (51, .invokevirtual 119, 54, 165, 2, 7), (54, .ireturn, 55, 0, 0, 0)]
theorem ok_M_exchange : am_okM 172 cd_M_exchange := by unfold am_okM; rw [am_m_172]; decide +kernel
/-- ThingsThrownModel.swap(II)V -/
abbrev n_M_swap : Nat := 173
def cd_M_swap : List Am_E := [(0, .aload_n 0, 1, 0, 0, 0), (1, .getfield 7, 4, 7, 0, 0), (4, .iload_n 1, 5, 0, 0, 0), (5, .iaload, 6, 0, 0, 0), (6, .istore_n 3, 7, 0, 0, 0), (7, .aload_n 0, 8, 0, 0, 0), (8, .getfield 7, 11, 7, 0, 0), (11, .iload_n 1, 12, 0, 0, 0), (12, .aload_n 0, 13, 0, 0, 0), (13, .getfield 7, 16, 7, 0, 0), (16, .iload_n 2, 17, 0, 0, 0), (17, .iaload, 18, 0, 0, 0), (18, .iastore, 19, 0, 0, 0), (19, .aload_n 0, 20, 0, 0, 0), (20, .getfield 7, 23, 7, 0, 0), (23, .iload_n 2, 24, 0, 0, 0), (24, .iload_n 3, 25, 0, 0, 0), (25, .iastore, 26, 0, 0, 0), (26, .return_, 27, 0, 0, 0)]
theorem ok_M_swap : am_okM 173 cd_M_swap := by unfold am_okM; rw [am_m_173]; decide +kernel
/-- ThingsThrownModel.undo(I)I -/
abbrev n_M_undo : Nat := 174
def cd_M_undo : List Am_E := [(0, .iload_n 1, 1, 0, 0, 0), (1, .iconst 0, 2, 0, 0, 0), (2, .aload_n 0, 3, 0, 0, 0), (3, .getfield 7, 6, 7, 0, 0), (6, .sipush 533, 9, 533, 0, 0), (9, .iaload, 10, 0, 0, 0), (10, .invokestatic 55, 13, 134, 3, 0), (13, .ifCond .ne 5, 16, 18, 0, 0), (16, .iconst (-1), 17, 1, 1, 0), (17, .ireturn, 18, 0, 0, 0), (18, .aload_n 0, 19, 0, 0, 0), (19, .getfield 7, 22, 7, 0, 0), (22, .sipush 533, 25, 533, 0, 0), (25, .iaload, 26, 0, 0, 0), (26, .iload_n 1, 27, 0, 0, 0), (27, .isub, 28, 0, 0, 0), (28, .istore_n 2, 29, 0, 0, 0), (29, .iload_n 2, 30, 0, 0, 0), (30, .ifCond .le 26, 33, 56, 0, 0), (33, .aload_n 0, 34, 0, 0, 0), (34, .bipush 13, 36, 13, 0, 0), (36, .bipush 13, 38, 13, 0, 0), (38, .iload_n 1, 39, 0, 0, 0), (39, .imul, 40, 0, 0, 0), (40, .iadd, 41, 0, 0, 0), (41, .iconst 0, 42, 0, 0, 0), (42, .bipush 13, 44, 13, 0, 0), (44, .invokevirtual 133, 47, 168, 4, 7), (47, .aload_n 0, 48, 0, 0, 0), (48, .getfield 7, 51, 7, 0, 0), (51, .sipush 533, 54, 533, 0, 0), (54, .iload_n 1, 55, 0, 0, 0), (55, .iastore, 56, 0, 0, 0), (56, .iload_n 2, 57, 0, 0, 0), (57, .ireturn, 58, 0, 0, 0)]
theorem ok_M_undo : am_okM 174 cd_M_undo := by unfold am_okM; rw [am_m_174]; decide +kernel
/-- ThingsThrownModel.keep(I)I -/
abbrev n_M_keep : Nat := 175
def cd_M_keep : List Am_E := [(0, .iload_n 1, 1, 0, 0, 0), (1, .iconst 0, 2, 0, 0, 0), (2, .iconst 2, 3, 2, 0, 0), (3, .invokestatic 55, 6, 134, 3, 0), (6, .ifCond .ne 5, 9, 11, 0, 0), (9, .iconst (-1), 10, 1, 1, 0), (10, .ireturn, 11, 0, 0, 0), (11, .aload_n 0, 12, 0, 0, 0), (12, .getfield 95, 15, 7, 2, 0), (15, .ifCond .ne 6, 18, 21, 0, 0), (18, .bipush (-4), 20, 4, 1, 0), (20, .ireturn, 21, 0, 0, 0), (21, .aload_n 0, 22, 0, 0, 0), (22, .iconst 0, 23, 0, 0, 0), (23, .sipush 534, 26, 534, 0, 0), (26, .iload_n 1, 27, 0, 0, 0), (27, .iconst 1, 28, 1, 0, 0), (28, .iadd, 29, 0, 0, 0), (29, .imul, 30, 0, 0, 0), (30, .sipush 534, 33, 534, 0, 0), (33, .invokevirtual 133, 36, 168, 4, 7), (36, .aload_n 0, 37, 0, 0, 0), (37, .getfield 16, 40, 7, 3, 0), (40, .iload_n 1, 41, 0, 0, 0), (41, .aload_n 0, 42, 0, 0, 0), (42, .getfield 7, 45, 7, 0, 0), (45, .sipush 533, 48, 533, 0, 0), (48, .iaload, 49, 0, 0, 0), (49, .iastore, 50, 0, 0, 0), (50, .aload_n 0, 51, 0, 0, 0), (51, .getfield 7, 54, 7, 0, 0), (54, .sipush 533, 57, 533, 0, 0), (57, .iaload, 58, 0, 0, 0), (58, .ireturn, 59, 0, 0, 0)]
theorem ok_M_keep : am_okM 175 cd_M_keep := by unfold am_okM; rw [am_m_175]; decide +kernel
/-- ThingsThrownModel.on(I)I -/
abbrev n_M_on : Nat := 176
def cd_M_on : List Am_E := [(0, .iload_n 1, 1, 0, 0, 0), (1, .iconst 0, 2, 0, 0, 0), (2, .iconst 2, 3, 2, 0, 0), (3, .invokestatic 55, 6, 134, 3, 0), (6, .ifCond .ne 5, 9, 11, 0, 0), (9, .iconst (-1), 10, 1, 1, 0), (10, .ireturn, 11, 0, 0, 0), (11, .aload_n 0, 12, 0, 0, 0), (12, .getfield 16, 15, 7, 3, 0), (15, .iload_n 1, 16, 0, 0, 0), (16, .iaload, 17, 0, 0, 0), (17, .ifCond .ge 9, 20, 26, 0, 0), (20, .aload_n 0, 21, 0, 0, 0), (21, .iconst 1, 22, 1, 0, 0), (22, .invokevirtual 63, 25, 135, 2, 7), (25, .ireturn, 26, 0, 0, 0), (26, .aload_n 0, 27, 0, 0, 0), (27, .sipush 534, 30, 534, 0, 0), (30, .iload_n 1, 31, 0, 0, 0), (31, .iconst 1, 32, 1, 0, 0), (32, .iadd, 33, 0, 0, 0), (33, .imul, 34, 0, 0, 0), (34, .iconst 0, 35, 0, 0, 0), (35, .sipush 534, 38, 534, 0, 0), (38, .invokevirtual 133, 41, 168, 4, 7), (41, .aload_n 0, 42, 0, 0, 0), (42, .getfield 7, 45, 7, 0, 0), (45, .sipush 533, 48, 533, 0, 0), (48, .iaload, 49, 0, 0, 0), (49, .ireturn, 50, 0, 0, 0)]
theorem ok_M_on : am_okM 176 cd_M_on := by unfold am_okM; rw [am_m_176]; decide +kernel
/-- ThingsThrownModel.lands(II)I -/
abbrev n_M_lands : Nat := 177
def cd_M_lands : List Am_E := [(0, .aload_n 0, 1, 0, 0, 0), (1, .iload_n 1, 2, 0, 0, 0), (2, .invokevirtual 101, 5, 154, 2, 7), (5, .ifCond .eq 23, 8, 28, 0, 0), (8, .iload_n 2, 9, 0, 0, 0), (9, .invokestatic 137, 12, 162, 1, 0), (12, .ifCond .eq 16, 15, 28, 0, 0), (15, .aload_n 0, 16, 0, 0, 0), (16, .getfield 13, 19, 7, 1, 0), (19, .iload_n 1, 20, 0, 0, 0), (20, .iaload, 21, 0, 0, 0), (21, .iload_n 2, 22, 0, 0, 0), (22, .invokestatic 98, 25, 156, 2, 0), (25, .goto 4, 28, 29, 0, 0), (28, .iconst (-1), 29, 1, 1, 0), (29, .ireturn, 30, 0, 0, 0)]
theorem ok_M_lands : am_okM 177 cd_M_lands := by unfold am_okM; rw [am_m_177]; decide +kernel
/-- ThingsThrownModel.may()I -/
abbrev n_M_may : Nat := 178
def cd_M_may : List Am_E := [(0, .aload_n 0, 1, 0, 0, 0), (1, .getfield 95, 4, 7, 2, 0), (4, .ifCond .ne 6, 7, 10, 0, 0), (7, .bipush (-4), 9, 4, 1, 0), (9, .ireturn, 10, 0, 0, 0), (10, .aload_n 0, 11, 0, 0, 0), (11, .iconst 0, 12, 0, 0, 0), (12, .invokevirtual 116, 15, 164, 2, 7), (15, .bipush (-9), 17, 9, 1, 0), (17, .if_icmp .ne 6, 20, 23, 0, 0), (20, .bipush (-9), 22, 9, 1, 0), (22, .ireturn, 23, 0, 0, 0), (23, .aload_n 0, 24, 0, 0, 0), (24, .aload_n 0, 25, 0, 0, 0), (25, .iconst 0, 26, 0, 0, 0), (26, .invokevirtual 116, 29, 164, 2, 7), (29, .putfield 52, 32, 7, 8, 0), (32, .aload_n 0, 33, 0, 0, 0), (33, .iconst 0, 34, 0, 0, 0), (34, .invokevirtual 150, 37, 179, 2, 7), (37, .ireturn, 38, 0, 0, 0)]
theorem ok_M_may : am_okM 178 cd_M_may := by unfold am_okM; rw [am_m_178]; decide +kernel
/-- ThingsThrownModel.heightsAt(I)I -/
abbrev n_M_heightsAt : Nat := 179
def cd_M_heightsAt : List Am_E := [(0, .iconst 0, 1, 0, 0, 0), (1, .istore_n 2, 2, 0, 0, 0), (2, .iconst 1, 3, 1, 0, 0), (3, .istore_n 3, 4, 0, 0, 0), (4, .iload_n 3, 5, 0, 0, 0), (5, .bipush 7, 7, 7, 0, 0), (7, .if_icmp .gt 28, 10, 35, 0, 0), (10, .iload_n 2, 11, 0, 0, 0), (11, .aload_n 0, 12, 0, 0, 0), (12, .iload_n 1, 13, 0, 0, 0), (13, .iload_n 3, 14, 0, 0, 0), (14, .invokevirtual 126, 17, 163, 3, 7), (17, .ifCond .eq 9, 20, 26, 0, 0), (20, .iconst 1, 21, 1, 0, 0), (21, .iload_n 3, 22, 0, 0, 0), (22, .ishl, 23, 0, 0, 0), (23, .goto 4, 26, 27, 0, 0), (26, .iconst 0, 27, 0, 0, 0), (27, .ior, 28, 0, 0, 0), (28, .istore_n 2, 29, 0, 0, 0), (29, .iinc 3 1, 32, 1, 0, 0), (32, .goto (-28), 35, 4, 0, 0), (35, .iload_n 2, 36, 0, 0, 0), (36, .ireturn, 37, 0, 0, 0)]
theorem ok_M_heightsAt : am_okM 179 cd_M_heightsAt := by unfold am_okM; rw [am_m_179]; decide +kernel
/-- ThingsThrownModel.run(I)I -/
abbrev n_M_run : Nat := 180
def cd_M_run : List Am_E := [(0, .aload_n 0, 1, 0, 0, 0), (1, .getfield 95, 4, 7, 2, 0), (4, .ifCond .ne 6, 7, 10, 0, 0), (7, .bipush (-4), 9, 4, 1, 0), (9, .ireturn, 10, 0, 0, 0), (10, .aload_n 0, 11, 0, 0, 0), (11, .iload_n 1, 12, 0, 0, 0), (12, .iconst 0, 13, 0, 0, 0), (13, .bipush 20, 15, 20, 0, 0), (15, .invokevirtual 153, 18, 181, 4, 7), (18, .istore_n 2, 19, 0, 0, 0), (19, .iload_n 2, 20, 0, 0, 0), (20, .ifCond .ge 5, 23, 25, 0, 0), (23, .iload_n 2, 24, 0, 0, 0), (24, .ireturn, 25, 0, 0, 0), (25, .aload_n 0, 26, 0, 0, 0), (26, .invokevirtual 157, 29, 182, 1, 7), (29, .iconst 0, 30, 0, 0, 0), (30, .istore_n 3, 31, 0, 0, 0), (31, .iconst 1, 32, 1, 0, 0), (32, .istore 4, 34, 0, 0, 0), (34, .iload 4, 36, 0, 0, 0), (36, .ifCond .eq 64, 39, 100, 0, 0), (39, .iload_n 3, 40, 0, 0, 0), (40, .aload_n 0, 41, 0, 0, 0), (41, .getfield 22, 44, 7, 5, 0), (44, .iload_n 1, 45, 0, 0, 0), (45, .iaload, 46, 0, 0, 0), (46, .if_icmp .ge 54, 49, 100, 0, 0), (49, .aload_n 0, 50, 0, 0, 0), (50, .sipush 2136, 53, 2136, 0, 0), (53, .invokevirtual 160, 56, 183, 2, 7), (56, .aload_n 0, 57, 0, 0, 0), (57, .getfield 19, 60, 7, 4, 0), (60, .bipush 40, 62, 40, 0, 0), (62, .iload_n 1, 63, 0, 0, 0), (63, .imul, 64, 0, 0, 0), (64, .iload_n 3, 65, 0, 0, 0), (65, .iadd, 66, 0, 0, 0), (66, .iaload, 67, 0, 0, 0), (67, .istore 5, 69, 0, 0, 0), (69, .aload_n 0, 70, 0, 0, 0), (70, .sipush 2136, 73, 2136, 0, 0), (73, .iload 5, 75, 0, 0, 0), (75, .invokevirtual 126, 78, 163, 3, 7), (78, .istore 4, 80, 0, 0, 0), (80, .iload 4, 82, 0, 0, 0), (82, .ifCond .eq 15, 85, 97, 0, 0), (85, .aload_n 0, 86, 0, 0, 0), (86, .sipush 2136, 89, 2136, 0, 0), (89, .iload 5, 91, 0, 0, 0), (91, .invokevirtual 143, 94, 169, 3, 7), (94, .iinc 3 1, 97, 1, 0, 0), (97, .goto (-63), 100, 34, 0, 0), (100, .aload_n 0, 101, 0, 0, 0), (101, .aload_n 0, 102, 0, 0, 0), (102, .sipush 2136, 105, 2136, 0, 0), (105, .invokevirtual 119, 108, 165, 2, 7), (108, .putfield 52, 111, 7, 8, 0), (111, .iload_n 3, 112, 0, 0, 0), (112, .ireturn, 113, 0, 0, 0)]
theorem ok_M_run : am_okM 180 cd_M_run := by unfold am_okM; rw [am_m_180]; decide +kernel
/-- ThingsThrownModel.wrongHeights(III)I -/
abbrev n_M_wrongHeights : Nat := 181
def cd_M_wrongHeights : List Am_E := [(0, .iload_n 1, 1, 0, 0, 0), (1, .invokestatic 59, 4, 133, 1, 0), (4, .ifCond .ne 5, 7, 9, 0, 0), (7, .iconst (-1), 8, 1, 1, 0), (8, .ireturn, 9, 0, 0, 0), (9, .aload_n 0, 10, 0, 0, 0), (10, .getfield 22, 13, 7, 5, 0), (13, .iload_n 1, 14, 0, 0, 0), (14, .iaload, 15, 0, 0, 0), (15, .ifCond .ge 9, 18, 24, 0, 0), (18, .aload_n 0, 19, 0, 0, 0), (19, .iconst 1, 20, 1, 0, 0), (20, .invokevirtual 63, 23, 135, 2, 7), (23, .ireturn, 24, 0, 0, 0), (24, .aload_n 0, 25, 0, 0, 0), (25, .getfield 22, 28, 7, 5, 0), (28, .iload_n 1, 29, 0, 0, 0), (29, .iaload, 30, 0, 0, 0), (30, .iload_n 2, 31, 0, 0, 0), (31, .iload_n 3, 32, 0, 0, 0), (32, .invokestatic 55, 35, 134, 3, 0), (35, .ifCond .ne 9, 38, 44, 0, 0), (38, .aload_n 0, 39, 0, 0, 0), (39, .iconst 5, 40, 5, 0, 0), (40, .invokevirtual 63, 43, 135, 2, 7), (43, .ireturn, 44, 0, 0, 0), (44, .iconst 0, 45, 0, 0, 0), (45, .istore 4, 47, 0, 0, 0), (47, .iload 4, 49, 0, 0, 0), (49, .aload_n 0, 50, 0, 0, 0), (50, .getfield 22, 53, 7, 5, 0), (53, .iload_n 1, 54, 0, 0, 0), (54, .iaload, 55, 0, 0, 0), (55, .if_icmp .ge 33, 58, 88, 0, 0), (58, .aload_n 0, 59, 0, 0, 0), (59, .getfield 19, 62, 7, 4, 0), (62, .bipush 40, 64, 40, 0, 0), (64, .iload_n 1, 65, 0, 0, 0), (65, .imul, 66, 0, 0, 0), (66, .iload 4, 68, 0, 0, 0), (68, .iadd, 69, 0, 0, 0), (69, .iaload, 70, 0, 0, 0), (70, .invokestatic 137, 73, 162, 1, 0), (73, .ifCond .ne 9, 76, 82, 0, 0), (76, .aload_n 0, 77, 0, 0, 0), (77, .iconst 3, 78, 3, 0, 0), (78, .invokevirtual 63, 81, 135, 2, 7), (81, .ireturn, 82, 0, 0, 0), (82, .iinc 4 1, 85, 1, 0, 0), (85, .goto (-38), 88, 47, 0, 0), (88, .iconst 0, 89, 0, 0, 0), (89, .ireturn, 90, 0, 0, 0)]
theorem ok_M_wrongHeights : am_okM 181 cd_M_wrongHeights := by unfold am_okM; rw [am_m_181]; decide +kernel
/-- ThingsThrownModel.beginTry()V -/
abbrev n_M_beginTry : Nat := 182
def cd_M_beginTry : List Am_E := [(0, .aload_n 0, 1, 0, 0, 0), (1, .iconst 0, 2, 0, 0, 0), (2, .sipush 2136, 5, 2136, 0, 0), (5, .bipush 13, 7, 13, 0, 0), (7, .invokevirtual 133, 10, 168, 4, 7), (10, .return_, 11, 0, 0, 0)]
theorem ok_M_beginTry : am_okM 182 cd_M_beginTry := by unfold am_okM; rw [am_m_182]; decide +kernel
/-- ThingsThrownModel.restsAt(I)V -/
abbrev n_M_restsAt : Nat := 183
def cd_M_restsAt : List Am_E := [(0, .aload_n 0, 1, 0, 0, 0), (1, .iload_n 1, 2, 0, 0, 0), (2, .invokevirtual 116, 5, 164, 2, 7), (5, .bipush (-9), 7, 9, 1, 0), (7, .if_icmp .ne 11, 10, 18, 0, 0), (10, .aload_n 0, 11, 0, 0, 0), (11, .iload_n 1, 12, 0, 0, 0), (12, .invokevirtual 129, 15, 170, 2, 7), (15, .goto (-15), 18, 0, 0, 0), (18, .return_, 19, 0, 0, 0)]
theorem ok_M_restsAt : am_okM 183 cd_M_restsAt := by unfold am_okM; rw [am_m_183]; decide +kernel
/-- ThingsThrownModel.rounds(I)I -/
abbrev n_M_rounds : Nat := 184
def cd_M_rounds : List Am_E := [(0, .aload_n 0, 1, 0, 0, 0), (1, .getfield 95, 4, 7, 2, 0), (4, .ifCond .ne 6, 7, 10, 0, 0), (7, .bipush (-4), 9, 4, 1, 0), (9, .ireturn, 10, 0, 0, 0), (10, .aload_n 0, 11, 0, 0, 0), (11, .iload_n 1, 12, 0, 0, 0), (12, .iconst 1, 13, 1, 0, 0), (13, .bipush 20, 15, 20, 0, 0), (15, .invokevirtual 153, 18, 181, 4, 7), (18, .istore_n 2, 19, 0, 0, 0), (19, .iload_n 2, 20, 0, 0, 0), (20, .ifCond .ge 5, 23, 25, 0, 0), (23, .iload_n 2, 24, 0, 0, 0), (24, .ireturn, 25, 0, 0, 0), (25, .aload_n 0, 26, 0, 0, 0), (26, .invokevirtual 157, 29, 182, 1, 7), (29, .iconst 1, 30, 1, 0, 0), (30, .istore_n 3, 31, 0, 0, 0), (31, .iload_n 3, 32, 0, 0, 0), (32, .bipush 100, 34, 100, 0, 0), (34, .if_icmp .gt 112, 37, 146, 0, 0), (37, .iconst 0, 38, 0, 0, 0), (38, .istore 4, 40, 0, 0, 0), (40, .iload 4, 42, 0, 0, 0), (42, .aload_n 0, 43, 0, 0, 0), (43, .getfield 22, 46, 7, 5, 0), (46, .iload_n 1, 47, 0, 0, 0), (47, .iaload, 48, 0, 0, 0), (48, .if_icmp .ge 54, 51, 102, 0, 0), (51, .aload_n 0, 52, 0, 0, 0), (52, .sipush 2136, 55, 2136, 0, 0), (55, .invokevirtual 160, 58, 183, 2, 7), (58, .aload_n 0, 59, 0, 0, 0), (59, .getfield 19, 62, 7, 4, 0), (62, .bipush 40, 64, 40, 0, 0), (64, .iload_n 1, 65, 0, 0, 0), (65, .imul, 66, 0, 0, 0), (66, .iload 4, 68, 0, 0, 0), (68, .iadd, 69, 0, 0, 0), (69, .iaload, 70, 0, 0, 0), (70, .istore 5, 72, 0, 0, 0), (72, .aload_n 0, 73, 0, 0, 0), (73, .sipush 2136, 76, 2136, 0, 0), (76, .iload 5, 78, 0, 0, 0), (78, .invokevirtual 126, 81, 163, 3, 7), (81, .ifCond .ne 6, 84, 87, 0, 0), (84, .bipush (-9), 86, 9, 1, 0), (86, .ireturn, 87, 0, 0, 0), (87, .aload_n 0, 88, 0, 0, 0), (88, .sipush 2136, 91, 2136, 0, 0), (91, .iload 5, 93, 0, 0, 0), (93, .invokevirtual 143, 96, 169, 3, 7), (96, .iinc 4 1, 99, 1, 0, 0), (99, .goto (-59), 102, 40, 0, 0), (102, .aload_n 0, 103, 0, 0, 0), (103, .invokevirtual 163, 106, 185, 1, 7), (106, .ifCond .ne 25, 109, 131, 0, 0), (109, .aload_n 0, 110, 0, 0, 0), (110, .sipush 2136, 113, 2136, 0, 0), (113, .invokevirtual 116, 116, 164, 2, 7), (116, .bipush (-9), 118, 9, 1, 0), (118, .if_icmp .ne 13, 121, 131, 0, 0), (121, .aload_n 0, 122, 0, 0, 0), (122, .sipush 2136, 125, 2136, 0, 0), (125, .invokevirtual 129, 128, 170, 2, 7), (128, .goto (-26), 131, 102, 0, 0), (131, .aload_n 0, 132, 0, 0, 0), (132, .invokevirtual 163, 135, 185, 1, 7), (135, .ifCond .eq 5, 138, 140, 0, 0), (138, .iload_n 3, 139, 0, 0, 0), (139, .ireturn, 140, 0, 0, 0), (140, .iinc 3 1, 143, 1, 0, 0), (143, .goto (-112), 146, 31, 0, 0), (146, .bipush (-9), 148, 9, 1, 0), (148, .ireturn, 149, 0, 0, 0)]
theorem ok_M_rounds : am_okM 184 cd_M_rounds := by unfold am_okM; rw [am_m_184]; decide +kernel
/-- ThingsThrownModel.isAsNow()Z -/
abbrev n_M_isAsNow : Nat := 185
def cd_M_isAsNow : List Am_E := [(0, .iconst 1, 1, 1, 0, 0), (1, .istore_n 1, 2, 0, 0, 0), (2, .iconst 0, 3, 0, 0, 0), (3, .istore_n 2, 4, 0, 0, 0), (4, .iload_n 2, 5, 0, 0, 0), (5, .aload_n 0, 6, 0, 0, 0), (6, .getfield 95, 9, 7, 2, 0), (9, .if_icmp .ge 38, 12, 47, 0, 0), (12, .iload_n 1, 13, 0, 0, 0), (13, .ifCond .eq 26, 16, 39, 0, 0), (16, .aload_n 0, 17, 0, 0, 0), (17, .getfield 7, 20, 7, 0, 0), (20, .sipush 2136, 23, 2136, 0, 0), (23, .iload_n 2, 24, 0, 0, 0), (24, .iadd, 25, 0, 0, 0), (25, .iaload, 26, 0, 0, 0), (26, .aload_n 0, 27, 0, 0, 0), (27, .getfield 7, 30, 7, 0, 0), (30, .iload_n 2, 31, 0, 0, 0), (31, .iaload, 32, 0, 0, 0), (32, .if_icmp .ne 7, 35, 39, 0, 0), (35, .iconst 1, 36, 1, 0, 0), (36, .goto 4, 39, 40, 0, 0), (39, .iconst 0, 40, 0, 0, 0), (40, .istore_n 1, 41, 0, 0, 0), (41, .iinc 2 1, 44, 1, 0, 0), (44, .goto (-40), 47, 4, 0, 0), (47, .iload_n 1, 48, 0, 0, 0), (48, .ireturn, 49, 0, 0, 0)]
theorem ok_M_isAsNow : am_okM 185 cd_M_isAsNow := by unfold am_okM; rw [am_m_185]; decide +kernel
/-- ThingsThrownModel.fewest(II)I -/
abbrev n_M_fewest : Nat := 186
def cd_M_fewest : List Am_E := [(0, .aload_n 0, 1, 0, 0, 0), (1, .getfield 95, 4, 7, 2, 0), (4, .ifCond .ne 6, 7, 10, 0, 0), (7, .bipush (-4), 9, 4, 1, 0), (9, .ireturn, 10, 0, 0, 0), (10, .iload_n 1, 11, 0, 0, 0), (11, .invokestatic 174, 14, 187, 1, 0), (14, .ifCond .eq 10, 17, 24, 0, 0), (17, .iload_n 2, 18, 0, 0, 0), (18, .invokestatic 59, 21, 133, 1, 0), (21, .ifCond .ne 5, 24, 26, 0, 0), (24, .iconst (-1), 25, 1, 1, 0), (25, .ireturn, 26, 0, 0, 0), (26, .iconst 0, 27, 0, 0, 0), (27, .istore_n 3, 28, 0, 0, 0), (28, .iload_n 3, 29, 0, 0, 0), (29, .iconst 4, 30, 4, 0, 0), (30, .if_icmp .gt 91, 33, 121, 0, 0), (33, .iconst 0, 34, 0, 0, 0), (34, .istore 4, 36, 0, 0, 0), (36, .iload 4, 38, 0, 0, 0), (38, .bipush 7, 40, 7, 0, 0), (40, .iload_n 3, 41, 0, 0, 0), (41, .invokestatic 167, 44, 188, 2, 0), (44, .if_icmp .ge 71, 47, 115, 0, 0), (47, .aload_n 0, 48, 0, 0, 0), (48, .iload 4, 50, 0, 0, 0), (50, .iload_n 3, 51, 0, 0, 0), (51, .invokevirtual 177, 54, 189, 3, 7), (54, .ifCond .eq 55, 57, 109, 0, 0), (57, .aload_n 0, 58, 0, 0, 0), (58, .iload_n 1, 59, 0, 0, 0), (59, .invokevirtual 180, 62, 191, 2, 7), (62, .ifCond .eq 47, 65, 109, 0, 0), (65, .aload_n 0, 66, 0, 0, 0), (66, .getfield 22, 69, 7, 5, 0), (69, .iload_n 2, 70, 0, 0, 0), (70, .iload_n 3, 71, 0, 0, 0), (71, .iastore, 72, 0, 0, 0), (72, .iconst 0, 73, 0, 0, 0), (73, .istore 5, 75, 0, 0, 0), (75, .iload 5, 77, 0, 0, 0), (77, .iload_n 3, 78, 0, 0, 0), (78, .if_icmp .ge 29, 81, 107, 0, 0), (81, .aload_n 0, 82, 0, 0, 0), (82, .getfield 19, 85, 7, 4, 0), (85, .bipush 40, 87, 40, 0, 0), (87, .iload_n 2, 88, 0, 0, 0), (88, .imul, 89, 0, 0, 0), (89, .iload 5, 91, 0, 0, 0), (91, .iadd, 92, 0, 0, 0), (92, .iload 4, 94, 0, 0, 0), (94, .iload_n 3, 95, 0, 0, 0), (95, .iload 5, 97, 0, 0, 0), (97, .invokestatic 170, 100, 190, 3, 0), (100, .iastore, 101, 0, 0, 0), (101, .iinc 5 1, 104, 1, 0, 0), (104, .goto (-29), 107, 75, 0, 0), (107, .iload_n 3, 108, 0, 0, 0), (108, .ireturn, 109, 0, 0, 0), (109, .iinc 4 1, 112, 1, 0, 0), (112, .goto (-76), 115, 36, 0, 0), (115, .iinc 3 1, 118, 1, 0, 0), (118, .goto (-90), 121, 28, 0, 0), (121, .bipush (-9), 123, 9, 1, 0), (123, .ireturn, 124, 0, 0, 0)]
theorem ok_M_fewest : am_okM 186 cd_M_fewest := by unfold am_okM; rw [am_m_186]; decide +kernel
/-- ThingsThrownModel.isSky(I)Z -/
abbrev n_M_isSky : Nat := 187
def cd_M_isSky : List Am_E := [(0, .iload_n 0, 1, 0, 0, 0), (1, .iconst 0, 2, 0, 0, 0), (2, .ldc 173, 4, 65535, 0, 0), (4, .invokestatic 55, 7, 134, 3, 0), (7, .ireturn, 8, 0, 0, 0)]
theorem ok_M_isSky : am_okM 187 cd_M_isSky := by unfold am_okM; rw [am_m_187]; decide +kernel
/-- ThingsThrownModel.power(II)I -/
abbrev n_M_power : Nat := 188
def cd_M_power : List Am_E := [(0, .iconst 1, 1, 1, 0, 0), (1, .istore_n 2, 2, 0, 0, 0), (2, .iconst 0, 3, 0, 0, 0), (3, .istore_n 3, 4, 0, 0, 0), (4, .iload_n 3, 5, 0, 0, 0), (5, .iload_n 1, 6, 0, 0, 0), (6, .if_icmp .ge 13, 9, 19, 0, 0), (9, .iload_n 2, 10, 0, 0, 0), (10, .iload_n 0, 11, 0, 0, 0), (11, .imul, 12, 0, 0, 0), (12, .istore_n 2, 13, 0, 0, 0), (13, .iinc 3 1, 16, 1, 0, 0), (16, .goto (-12), 19, 4, 0, 0), (19, .iload_n 2, 20, 0, 0, 0), (20, .ireturn, 21, 0, 0, 0)]
theorem ok_M_power : am_okM 188 cd_M_power := by unfold am_okM; rw [am_m_188]; decide +kernel
/-- ThingsThrownModel.canThrow(II)Z -/
abbrev n_M_canThrow : Nat := 189
def cd_M_canThrow : List Am_E := [(0, .aload_n 0, 1, 0, 0, 0), (1, .invokevirtual 157, 4, 182, 1, 7), (4, .iconst 0, 5, 0, 0, 0), (5, .istore_n 3, 6, 0, 0, 0), (6, .iload_n 3, 7, 0, 0, 0), (7, .iload_n 2, 8, 0, 0, 0), (8, .if_icmp .ge 47, 11, 55, 0, 0), (11, .aload_n 0, 12, 0, 0, 0), (12, .sipush 2136, 15, 2136, 0, 0), (15, .invokevirtual 160, 18, 183, 2, 7), (18, .iload_n 1, 19, 0, 0, 0), (19, .iload_n 2, 20, 0, 0, 0), (20, .iload_n 3, 21, 0, 0, 0), (21, .invokestatic 170, 24, 190, 3, 0), (24, .istore 4, 26, 0, 0, 0), (26, .aload_n 0, 27, 0, 0, 0), (27, .sipush 2136, 30, 2136, 0, 0), (30, .iload 4, 32, 0, 0, 0), (32, .invokevirtual 126, 35, 163, 3, 7), (35, .ifCond .ne 5, 38, 40, 0, 0), (38, .iconst 0, 39, 0, 0, 0), (39, .ireturn, 40, 0, 0, 0), (40, .aload_n 0, 41, 0, 0, 0), (41, .sipush 2136, 44, 2136, 0, 0), (44, .iload 4, 46, 0, 0, 0), (46, .invokevirtual 143, 49, 169, 3, 7), (49, .iinc 3 1, 52, 1, 0, 0), (52, .goto (-46), 55, 6, 0, 0), (55, .iconst 1, 56, 1, 0, 0), (56, .ireturn, 57, 0, 0, 0)]
theorem ok_M_canThrow : am_okM 189 cd_M_canThrow := by unfold am_okM; rw [am_m_189]; decide +kernel
/-- ThingsThrownModel.figure(III)I -/
abbrev n_M_figure : Nat := 190
def cd_M_figure : List Am_E := [(0, .iload_n 0, 1, 0, 0, 0), (1, .bipush 7, 3, 7, 0, 0), (3, .iload_n 1, 4, 0, 0, 0), (4, .iconst 1, 5, 1, 0, 0), (5, .isub, 6, 0, 0, 0), (6, .iload_n 2, 7, 0, 0, 0), (7, .isub, 8, 0, 0, 0), (8, .invokestatic 167, 11, 188, 2, 0), (11, .idiv, 12, 0, 0, 0), (12, .bipush 7, 14, 7, 0, 0), (14, .irem, 15, 0, 0, 0), (15, .iconst 1, 16, 1, 0, 0), (16, .iadd, 17, 0, 0, 0), (17, .ireturn, 18, 0, 0, 0)]
theorem ok_M_figure : am_okM 190 cd_M_figure := by unfold am_okM; rw [am_m_190]; decide +kernel
/-- ThingsThrownModel.comesTo(I)Z -/
abbrev n_M_comesTo : Nat := 191
def cd_M_comesTo : List Am_E := [(0, .aload_n 0, 1, 0, 0, 0), (1, .sipush 2136, 4, 2136, 0, 0), (4, .invokevirtual 119, 7, 165, 2, 7), (7, .iload_n 1, 8, 0, 0, 0), (8, .if_icmp .eq 25, 11, 33, 0, 0), (11, .aload_n 0, 12, 0, 0, 0), (12, .sipush 2136, 15, 2136, 0, 0), (15, .invokevirtual 116, 18, 164, 2, 7), (18, .bipush (-9), 20, 9, 1, 0), (20, .if_icmp .ne 13, 23, 33, 0, 0), (23, .aload_n 0, 24, 0, 0, 0), (24, .sipush 2136, 27, 2136, 0, 0), (27, .invokevirtual 129, 30, 170, 2, 7), (30, .goto (-30), 33, 0, 0, 0), (33, .aload_n 0, 34, 0, 0, 0), (34, .sipush 2136, 37, 2136, 0, 0), (37, .invokevirtual 119, 40, 165, 2, 7), (40, .iload_n 1, 41, 0, 0, 0), (41, .if_icmp .ne 7, 44, 48, 0, 0), (44, .iconst 1, 45, 1, 0, 0), (45, .goto 4, 48, 49, 0, 0), (48, .iconst 0, 49, 0, 0, 0), (49, .ireturn, 50, 0, 0, 0)]
theorem ok_M_comesTo : am_okM 191 cd_M_comesTo := by unfold am_okM; rw [am_m_191]; decide +kernel
/-- ThingsThrownModel.ways(I)I -/
abbrev n_M_ways : Nat := 192
def cd_M_ways : List Am_E := [(0, .aload_n 0, 1, 0, 0, 0), (1, .getfield 95, 4, 7, 2, 0), (4, .ifCond .ne 6, 7, 10, 0, 0), (7, .bipush (-4), 9, 4, 1, 0), (9, .ireturn, 10, 0, 0, 0), (10, .iload_n 1, 11, 0, 0, 0), (11, .iconst 1, 12, 1, 0, 0), (12, .iconst 4, 13, 4, 0, 0), (13, .invokestatic 55, 16, 134, 3, 0), (16, .ifCond .ne 5, 19, 21, 0, 0), (19, .iconst (-1), 20, 1, 1, 0), (20, .ireturn, 21, 0, 0, 0), (21, .iconst 0, 22, 0, 0, 0), (22, .istore_n 2, 23, 0, 0, 0), (23, .iconst 0, 24, 0, 0, 0), (24, .istore_n 3, 25, 0, 0, 0), (25, .iconst 0, 26, 0, 0, 0), (26, .istore 4, 28, 0, 0, 0), (28, .iload 4, 30, 0, 0, 0), (30, .bipush 7, 32, 7, 0, 0), (32, .iload_n 1, 33, 0, 0, 0), (33, .invokestatic 167, 36, 188, 2, 0), (36, .if_icmp .ge 49, 39, 85, 0, 0), (39, .aload_n 0, 40, 0, 0, 0), (40, .iload 4, 42, 0, 0, 0), (42, .iload_n 1, 43, 0, 0, 0), (43, .invokevirtual 177, 46, 189, 3, 7), (46, .ifCond .eq 33, 49, 79, 0, 0), (49, .aload_n 0, 50, 0, 0, 0), (50, .sipush 2136, 53, 2136, 0, 0), (53, .invokevirtual 119, 56, 165, 2, 7), (56, .aload_n 0, 57, 0, 0, 0), (57, .iconst 0, 58, 0, 0, 0), (58, .invokevirtual 119, 61, 165, 2, 7), (61, .if_icmp .ne 18, 64, 79, 0, 0), (64, .iinc 2 1, 67, 1, 0, 0), (67, .iload_n 3, 68, 0, 0, 0), (68, .iconst 1, 69, 1, 0, 0), (69, .iload 4, 71, 0, 0, 0), (71, .iload_n 1, 72, 0, 0, 0), (72, .iconst 0, 73, 0, 0, 0), (73, .invokestatic 170, 76, 190, 3, 0), (76, .ishl, 77, 0, 0, 0), (77, .ior, 78, 0, 0, 0), (78, .istore_n 3, 79, 0, 0, 0), (79, .iinc 4 1, 82, 1, 0, 0), (82, .goto (-54), 85, 28, 0, 0), (85, .aload_n 0, 86, 0, 0, 0), (86, .iload_n 2, 87, 0, 0, 0), (87, .i2l, 88, 0, 0, 0), (88, .putfield 183, 91, 7, 9, 0), (91, .aload_n 0, 92, 0, 0, 0), (92, .lconst 1, 93, 1, 0, 0), (93, .putfield 32, 96, 7, 10, 0), (96, .aload_n 0, 97, 0, 0, 0), (97, .iload_n 3, 98, 0, 0, 0), (98, .invokevirtual 71, 101, 138, 2, 7), (101, .ireturn, 102, 0, 0, 0)]
theorem ok_M_ways : am_okM 192 cd_M_ways := by unfold am_okM; rw [am_m_192]; decide +kernel
/-- ThingsThrownModel.height(I)I -/
abbrev n_M_height : Nat := 193
def cd_M_height : List Am_E := [(0, .aload_n 0, 1, 0, 0, 0), (1, .getfield 95, 4, 7, 2, 0), (4, .ifCond .ne 6, 7, 10, 0, 0), (7, .bipush (-4), 9, 4, 1, 0), (9, .ireturn, 10, 0, 0, 0), (10, .iload_n 1, 11, 0, 0, 0), (11, .invokestatic 174, 14, 187, 1, 0), (14, .ifCond .ne 5, 17, 19, 0, 0), (17, .iconst (-1), 18, 1, 1, 0), (18, .ireturn, 19, 0, 0, 0), (19, .aload_n 0, 20, 0, 0, 0), (20, .iconst 0, 21, 0, 0, 0), (21, .invokevirtual 116, 24, 164, 2, 7), (24, .bipush (-9), 26, 9, 1, 0), (26, .if_icmp .ne 6, 29, 32, 0, 0), (29, .bipush (-9), 31, 9, 1, 0), (31, .ireturn, 32, 0, 0, 0), (32, .iconst 0, 33, 0, 0, 0), (33, .istore_n 2, 34, 0, 0, 0), (34, .iconst 1, 35, 1, 0, 0), (35, .istore_n 3, 36, 0, 0, 0), (36, .iload_n 3, 37, 0, 0, 0), (37, .bipush 7, 39, 7, 0, 0), (39, .if_icmp .gt 51, 42, 90, 0, 0), (42, .aload_n 0, 43, 0, 0, 0), (43, .iconst 0, 44, 0, 0, 0), (44, .iload_n 3, 45, 0, 0, 0), (45, .invokevirtual 126, 48, 163, 3, 7), (48, .ifCond .eq 36, 51, 84, 0, 0), (51, .aload_n 0, 52, 0, 0, 0), (52, .invokevirtual 157, 55, 182, 1, 7), (55, .aload_n 0, 56, 0, 0, 0), (56, .sipush 2136, 59, 2136, 0, 0), (59, .iload_n 3, 60, 0, 0, 0), (60, .invokevirtual 143, 63, 169, 3, 7), (63, .iload_n 2, 64, 0, 0, 0), (64, .aload_n 0, 65, 0, 0, 0), (65, .sipush 2136, 68, 2136, 0, 0), (68, .invokevirtual 119, 71, 165, 2, 7), (71, .iload_n 1, 72, 0, 0, 0), (72, .if_icmp .ne 9, 75, 81, 0, 0), (75, .iconst 1, 76, 1, 0, 0), (76, .iload_n 3, 77, 0, 0, 0), (77, .ishl, 78, 0, 0, 0), (78, .goto 4, 81, 82, 0, 0), (81, .iconst 0, 82, 0, 0, 0), (82, .ior, 83, 0, 0, 0), (83, .istore_n 2, 84, 0, 0, 0), (84, .iinc 3 1, 87, 1, 0, 0), (87, .goto (-51), 90, 36, 0, 0), (90, .iload_n 2, 91, 0, 0, 0), (91, .ireturn, 92, 0, 0, 0)]
theorem ok_M_height : am_okM 193 cd_M_height := by unfold am_okM; rw [am_m_193]; decide +kernel
/-- ThingsThrownModel.kinds(II)I -/
abbrev n_M_kinds : Nat := 194
def cd_M_kinds : List Am_E := [(0, .aload_n 0, 1, 0, 0, 0), (1, .iload_n 1, 2, 0, 0, 0), (2, .iload_n 2, 3, 0, 0, 0), (3, .invokevirtual 186, 6, 195, 3, 7), (6, .istore_n 3, 7, 0, 0, 0), (7, .iload_n 3, 8, 0, 0, 0), (8, .ifCond .ge 7, 11, 15, 0, 0), (11, .iload_n 3, 12, 0, 0, 0), (12, .goto 8, 15, 20, 0, 0), (15, .aload_n 0, 16, 0, 0, 0), (16, .iload_n 2, 17, 0, 0, 0), (17, .invokevirtual 189, 20, 196, 2, 7), (20, .ireturn, 21, 0, 0, 0)]
theorem ok_M_kinds : am_okM 194 cd_M_kinds := by unfold am_okM; rw [am_m_194]; decide +kernel
/-- ThingsThrownModel.wrongPairs(II)I -/
abbrev n_M_wrongPairs : Nat := 195
def cd_M_wrongPairs : List Am_E := [(0, .aload_n 0, 1, 0, 0, 0), (1, .iload_n 1, 2, 0, 0, 0), (2, .invokevirtual 101, 5, 154, 2, 7), (5, .ifCond .eq 10, 8, 15, 0, 0), (8, .iload_n 2, 9, 0, 0, 0), (9, .invokestatic 59, 12, 133, 1, 0), (12, .ifCond .ne 5, 15, 17, 0, 0), (15, .iconst (-1), 16, 1, 1, 0), (16, .ireturn, 17, 0, 0, 0), (17, .aload_n 0, 18, 0, 0, 0), (18, .getfield 22, 21, 7, 5, 0), (21, .iload_n 2, 22, 0, 0, 0), (22, .iaload, 23, 0, 0, 0), (23, .ifCond .ge 9, 26, 32, 0, 0), (26, .aload_n 0, 27, 0, 0, 0), (27, .iconst 1, 28, 1, 0, 0), (28, .invokevirtual 63, 31, 135, 2, 7), (31, .ireturn, 32, 0, 0, 0), (32, .aload_n 0, 33, 0, 0, 0), (33, .getfield 22, 36, 7, 5, 0), (36, .iload_n 2, 37, 0, 0, 0), (37, .iaload, 38, 0, 0, 0), (38, .bipush 16, 40, 16, 0, 0), (40, .if_icmp .gt 14, 43, 54, 0, 0), (43, .aload_n 0, 44, 0, 0, 0), (44, .getfield 22, 47, 7, 5, 0), (47, .iload_n 2, 48, 0, 0, 0), (48, .iaload, 49, 0, 0, 0), (49, .iconst 2, 50, 2, 0, 0), (50, .irem, 51, 0, 0, 0), (51, .ifCond .le 9, 54, 60, 0, 0), (54, .aload_n 0, 55, 0, 0, 0), (55, .iconst 5, 56, 5, 0, 0), (56, .invokevirtual 63, 59, 135, 2, 7), (59, .ireturn, 60, 0, 0, 0), (60, .iconst 0, 61, 0, 0, 0), (61, .istore_n 3, 62, 0, 0, 0), (62, .iload_n 3, 63, 0, 0, 0), (63, .aload_n 0, 64, 0, 0, 0), (64, .getfield 22, 67, 7, 5, 0), (67, .iload_n 2, 68, 0, 0, 0), (68, .iaload, 69, 0, 0, 0), (69, .if_icmp .ge 54, 72, 123, 0, 0), (72, .aload_n 0, 73, 0, 0, 0), (73, .getfield 19, 76, 7, 4, 0), (76, .bipush 40, 78, 40, 0, 0), (78, .iload_n 2, 79, 0, 0, 0), (79, .imul, 80, 0, 0, 0), (80, .iload_n 3, 81, 0, 0, 0), (81, .iadd, 82, 0, 0, 0), (82, .iaload, 83, 0, 0, 0), (83, .invokestatic 137, 86, 162, 1, 0), (86, .ifCond .eq 25, 89, 111, 0, 0), (89, .aload_n 0, 90, 0, 0, 0), (90, .getfield 19, 93, 7, 4, 0), (93, .bipush 40, 95, 40, 0, 0), (95, .iload_n 2, 96, 0, 0, 0), (96, .imul, 97, 0, 0, 0), (97, .iload_n 3, 98, 0, 0, 0), (98, .iadd, 99, 0, 0, 0), (99, .iconst 1, 100, 1, 0, 0), (100, .iadd, 101, 0, 0, 0), (101, .iaload, 102, 0, 0, 0), (102, .iconst 1, 103, 1, 0, 0), (103, .bipush 15, 105, 15, 0, 0), (105, .invokestatic 55, 108, 134, 3, 0), (108, .ifCond .ne 9, 111, 117, 0, 0), (111, .aload_n 0, 112, 0, 0, 0), (112, .iconst 3, 113, 3, 0, 0), (113, .invokevirtual 63, 116, 135, 2, 7), (116, .ireturn, 117, 0, 0, 0), (117, .iinc 3 2, 120, 2, 0, 0), (120, .goto (-58), 123, 62, 0, 0), (123, .iconst 0, 124, 0, 0, 0), (124, .ireturn, 125, 0, 0, 0)]
theorem ok_M_wrongPairs : am_okM 195 cd_M_wrongPairs := by unfold am_okM; rw [am_m_195]; decide +kernel
/-- ThingsThrownModel.kindsBy(I)I -/
abbrev n_M_kindsBy : Nat := 196
def cd_M_kindsBy : List Am_E := [(0, .iconst 0, 1, 0, 0, 0), (1, .istore_n 2, 2, 0, 0, 0), (2, .iconst 0, 3, 0, 0, 0), (3, .istore_n 3, 4, 0, 0, 0), (4, .iload_n 3, 5, 0, 0, 0), (5, .bipush 6, 7, 6, 0, 0), (7, .if_icmp .ge 92, 10, 99, 0, 0), (10, .iconst 1, 11, 1, 0, 0), (11, .istore 4, 13, 0, 0, 0), (13, .iconst 0, 14, 0, 0, 0), (14, .istore 5, 16, 0, 0, 0), (16, .iload 5, 18, 0, 0, 0), (18, .aload_n 0, 19, 0, 0, 0), (19, .getfield 22, 22, 7, 5, 0), (22, .iload_n 1, 23, 0, 0, 0), (23, .iaload, 24, 0, 0, 0), (24, .if_icmp .ge 54, 27, 78, 0, 0), (27, .iload 4, 29, 0, 0, 0), (29, .ifCond .eq 40, 32, 69, 0, 0), (32, .iload_n 3, 33, 0, 0, 0), (33, .aload_n 0, 34, 0, 0, 0), (34, .getfield 19, 37, 7, 4, 0), (37, .bipush 40, 39, 40, 0, 0), (39, .iload_n 1, 40, 0, 0, 0), (40, .imul, 41, 0, 0, 0), (41, .iload 5, 43, 0, 0, 0), (43, .iadd, 44, 0, 0, 0), (44, .iaload, 45, 0, 0, 0), (45, .invokestatic 98, 48, 156, 2, 0), (48, .aload_n 0, 49, 0, 0, 0), (49, .getfield 19, 52, 7, 4, 0), (52, .bipush 40, 54, 40, 0, 0), (54, .iload_n 1, 55, 0, 0, 0), (55, .imul, 56, 0, 0, 0), (56, .iload 5, 58, 0, 0, 0), (58, .iadd, 59, 0, 0, 0), (59, .iconst 1, 60, 1, 0, 0), (60, .iadd, 61, 0, 0, 0), (61, .iaload, 62, 0, 0, 0), (62, .if_icmp .ne 7, 65, 69, 0, 0), (65, .iconst 1, 66, 1, 0, 0), (66, .goto 4, 69, 70, 0, 0), (69, .iconst 0, 70, 0, 0, 0), (70, .istore 4, 72, 0, 0, 0), (72, .iinc 5 2, 75, 2, 0, 0), (75, .goto (-59), 78, 16, 0, 0), (78, .iload_n 2, 79, 0, 0, 0), (79, .iload 4, 81, 0, 0, 0), (81, .ifCond .eq 9, 84, 90, 0, 0), (84, .iconst 1, 85, 1, 0, 0), (85, .iload_n 3, 86, 0, 0, 0), (86, .ishl, 87, 0, 0, 0), (87, .goto 4, 90, 91, 0, 0), (90, .iconst 0, 91, 0, 0, 0), (91, .ior, 92, 0, 0, 0), (92, .istore_n 2, 93, 0, 0, 0), (93, .iinc 3 1, 96, 1, 0, 0), (96, .goto (-92), 99, 4, 0, 0), (99, .iload_n 2, 100, 0, 0, 0), (100, .ireturn, 101, 0, 0, 0)]
theorem ok_M_kindsBy : am_okM 196 cd_M_kindsBy := by unfold am_okM; rw [am_m_196]; decide +kernel
/-- ThingsThrownModel.next(II)I -/
abbrev n_M_next : Nat := 197
def cd_M_next : List Am_E := [(0, .aload_n 0, 1, 0, 0, 0), (1, .iload_n 1, 2, 0, 0, 0), (2, .iload_n 2, 3, 0, 0, 0), (3, .invokevirtual 186, 6, 195, 3, 7), (6, .istore_n 3, 7, 0, 0, 0), (7, .iload_n 3, 8, 0, 0, 0), (8, .ifCond .ge 5, 11, 13, 0, 0), (11, .iload_n 3, 12, 0, 0, 0), (12, .ireturn, 13, 0, 0, 0), (13, .aload_n 0, 14, 0, 0, 0), (14, .iload_n 2, 15, 0, 0, 0), (15, .invokevirtual 189, 18, 196, 2, 7), (18, .istore 4, 20, 0, 0, 0), (20, .iload 4, 22, 0, 0, 0), (22, .ifCond .ne 6, 25, 28, 0, 0), (25, .bipush (-9), 27, 9, 1, 0), (27, .ireturn, 28, 0, 0, 0), (28, .bipush (-9), 30, 9, 1, 0), (30, .istore 5, 32, 0, 0, 0), (32, .bipush 99, 34, 99, 0, 0), (34, .istore 6, 36, 0, 0, 0), (36, .iconst 1, 37, 1, 0, 0), (37, .istore 7, 39, 0, 0, 0), (39, .iload 7, 41, 0, 0, 0), (41, .bipush 7, 43, 7, 0, 0), (43, .if_icmp .gt 50, 46, 93, 0, 0), (46, .iload 4, 48, 0, 0, 0), (48, .iload 7, 50, 0, 0, 0), (50, .invokestatic 192, 53, 198, 2, 0), (53, .istore 8, 55, 0, 0, 0), (55, .iload 8, 57, 0, 0, 0), (57, .iload 6, 59, 0, 0, 0), (59, .if_icmp .ge 8, 62, 67, 0, 0), (62, .iload 7, 64, 0, 0, 0), (64, .goto 5, 67, 69, 0, 0), (67, .iload 5, 69, 0, 0, 0), (69, .istore 5, 71, 0, 0, 0), (71, .iload 8, 73, 0, 0, 0), (73, .iload 6, 75, 0, 0, 0), (75, .if_icmp .ge 8, 78, 83, 0, 0), (78, .iload 8, 80, 0, 0, 0), (80, .goto 5, 83, 85, 0, 0), (83, .iload 6, 85, 0, 0, 0), (85, .istore 6, 87, 0, 0, 0), (87, .iinc 7 1, 90, 1, 0, 0), (90, .goto (-51), 93, 39, 0, 0), (93, .aload_n 0, 94, 0, 0, 0), (94, .iload 6, 96, 0, 0, 0), (96, .putfield 52, 99, 7, 8, 0), (99, .iload 5, 101, 0, 0, 0), (101, .ireturn, 102, 0, 0, 0)]
theorem ok_M_next : am_okM 197 cd_M_next := by unfold am_okM; rw [am_m_197]; decide +kernel
/-- ThingsThrownModel.greatestPart(II)I -/
abbrev n_M_greatestPart : Nat := 198
def cd_M_greatestPart : List Am_E := [(0, .iconst 0, 1, 0, 0, 0), (1, .istore_n 2, 2, 0, 0, 0), (2, .iconst 0, 3, 0, 0, 0), (3, .istore_n 3, 4, 0, 0, 0), (4, .iload_n 3, 5, 0, 0, 0), (5, .bipush 6, 7, 6, 0, 0), (7, .if_icmp .ge 82, 10, 89, 0, 0), (10, .iconst 0, 11, 0, 0, 0), (11, .istore 4, 13, 0, 0, 0), (13, .iconst 0, 14, 0, 0, 0), (14, .istore 5, 16, 0, 0, 0), (16, .iload 5, 18, 0, 0, 0), (18, .bipush 6, 20, 6, 0, 0), (20, .if_icmp .ge 50, 23, 70, 0, 0), (23, .iload 4, 25, 0, 0, 0), (25, .iload_n 0, 26, 0, 0, 0), (26, .iload_n 3, 27, 0, 0, 0), (27, .invokestatic 122, 30, 166, 2, 0), (30, .ifCond .eq 30, 33, 60, 0, 0), (33, .iload_n 0, 34, 0, 0, 0), (34, .iload 5, 36, 0, 0, 0), (36, .invokestatic 122, 39, 166, 2, 0), (39, .ifCond .eq 21, 42, 60, 0, 0), (42, .iload_n 3, 43, 0, 0, 0), (43, .iload_n 1, 44, 0, 0, 0), (44, .invokestatic 98, 47, 156, 2, 0), (47, .iload 5, 49, 0, 0, 0), (49, .iload_n 1, 50, 0, 0, 0), (50, .invokestatic 98, 53, 156, 2, 0), (53, .if_icmp .ne 7, 56, 60, 0, 0), (56, .iconst 1, 57, 1, 0, 0), (57, .goto 4, 60, 61, 0, 0), (60, .iconst 0, 61, 0, 0, 0), (61, .iadd, 62, 0, 0, 0), (62, .istore 4, 64, 0, 0, 0), (64, .iinc 5 1, 67, 1, 0, 0), (67, .goto (-51), 70, 16, 0, 0), (70, .iload 4, 72, 0, 0, 0), (72, .iload_n 2, 73, 0, 0, 0), (73, .if_icmp .le 8, 76, 81, 0, 0), (76, .iload 4, 78, 0, 0, 0), (78, .goto 4, 81, 82, 0, 0), (81, .iload_n 2, 82, 0, 0, 0), (82, .istore_n 2, 83, 0, 0, 0), (83, .iinc 3 1, 86, 1, 0, 0), (86, .goto (-82), 89, 4, 0, 0), (89, .iload_n 2, 90, 0, 0, 0), (90, .ireturn, 91, 0, 0, 0)]
theorem ok_M_greatestPart : am_okM 198 cd_M_greatestPart := by unfold am_okM; rw [am_m_198]; decide +kernel
/-- ThingsThrownModel.duel(I)I -/
abbrev n_M_duel : Nat := 199
def cd_M_duel : List Am_E := [(0, .aload_n 0, 1, 0, 0, 0), (1, .getfield 95, 4, 7, 2, 0), (4, .ifCond .ne 6, 7, 10, 0, 0), (7, .bipush (-4), 9, 4, 1, 0), (9, .ireturn, 10, 0, 0, 0), (10, .iload_n 1, 11, 0, 0, 0), (11, .iconst 0, 12, 0, 0, 0), (12, .iconst 2, 13, 2, 0, 0), (13, .invokestatic 55, 16, 134, 3, 0), (16, .ifCond .ne 5, 19, 21, 0, 0), (19, .iconst (-1), 20, 1, 1, 0), (20, .ireturn, 21, 0, 0, 0), (21, .iconst 2, 22, 2, 0, 0), (22, .iload_n 1, 23, 0, 0, 0), (23, .imul, 24, 0, 0, 0), (24, .istore_n 2, 25, 0, 0, 0), (25, .iload_n 2, 26, 0, 0, 0), (26, .ifCond .lt 47, 29, 73, 0, 0), (29, .iconst 0, 30, 0, 0, 0), (30, .istore_n 3, 31, 0, 0, 0), (31, .iload_n 3, 32, 0, 0, 0), (32, .bipush 7, 34, 7, 0, 0), (34, .iload_n 2, 35, 0, 0, 0), (35, .invokestatic 167, 38, 188, 2, 0), (38, .if_icmp .ge 29, 41, 67, 0, 0), (41, .aload_n 0, 42, 0, 0, 0), (42, .getfield 45, 45, 7, 16, 0), (45, .iload_n 2, 46, 0, 0, 0), (46, .invokestatic 196, 49, 200, 1, 0), (49, .iload_n 3, 50, 0, 0, 0), (50, .iadd, 51, 0, 0, 0), (51, .aload_n 0, 52, 0, 0, 0), (52, .iload_n 2, 53, 0, 0, 0), (53, .iload_n 3, 54, 0, 0, 0), (54, .iconst 2, 55, 2, 0, 0), (55, .iload_n 1, 56, 0, 0, 0), (56, .imul, 57, 0, 0, 0), (57, .invokevirtual 205, 60, 201, 4, 7), (60, .iastore, 61, 0, 0, 0), (61, .iinc 3 1, 64, 1, 0, 0), (64, .goto (-33), 67, 31, 0, 0), (67, .iinc 2 (-1), 70, 1, 1, 0), (70, .goto (-45), 73, 25, 0, 0), (73, .aload_n 0, 74, 0, 0, 0), (74, .aload_n 0, 75, 0, 0, 0), (75, .getfield 45, 78, 7, 16, 0), (78, .iconst 0, 79, 0, 0, 0), (79, .iaload, 80, 0, 0, 0), (80, .invokevirtual 71, 83, 138, 2, 7), (83, .ireturn, 84, 0, 0, 0)]
theorem ok_M_duel : am_okM 199 cd_M_duel := by unfold am_okM; rw [am_m_199]; decide +kernel
/-- ThingsThrownModel.base(I)I -/
abbrev n_M_base : Nat := 200
def cd_M_base : List Am_E := [(0, .bipush 7, 2, 7, 0, 0), (2, .iload_n 0, 3, 0, 0, 0), (3, .invokestatic 167, 6, 188, 2, 0), (6, .iconst 1, 7, 1, 0, 0), (7, .isub, 8, 0, 0, 0), (8, .bipush 6, 10, 6, 0, 0), (10, .idiv, 11, 0, 0, 0), (11, .ireturn, 12, 0, 0, 0)]
theorem ok_M_base : am_okM 200 cd_M_base := by unfold am_okM; rw [am_m_200]; decide +kernel
/-- ThingsThrownModel.worthOf(III)I -/
abbrev n_M_worthOf : Nat := 201
def cd_M_worthOf : List Am_E := [(0, .aload_n 0, 1, 0, 0, 0), (1, .iload_n 2, 2, 0, 0, 0), (2, .iload_n 1, 3, 0, 0, 0), (3, .invokevirtual 177, 6, 189, 3, 7), (6, .ifCond .ne 6, 9, 12, 0, 0), (9, .ldc 195, 11, 99999, 1, 0), (11, .ireturn, 12, 0, 0, 0), (12, .iload_n 1, 13, 0, 0, 0), (13, .iload_n 3, 14, 0, 0, 0), (14, .if_icmp .ne 11, 17, 25, 0, 0), (17, .aload_n 0, 18, 0, 0, 0), (18, .sipush 2136, 21, 2136, 0, 0), (21, .invokevirtual 199, 24, 202, 2, 7), (24, .ireturn, 25, 0, 0, 0), (25, .aload_n 0, 26, 0, 0, 0), (26, .sipush 2136, 29, 2136, 0, 0), (29, .invokevirtual 160, 32, 183, 2, 7), (32, .aload_n 0, 33, 0, 0, 0), (33, .sipush 2136, 36, 2136, 0, 0), (36, .invokevirtual 150, 39, 179, 2, 7), (39, .ifCond .ne 25, 42, 64, 0, 0), (42, .aload_n 0, 43, 0, 0, 0), (43, .sipush 2136, 46, 2136, 0, 0), (46, .invokevirtual 199, 49, 202, 2, 7), (49, .iload_n 1, 50, 0, 0, 0), (50, .iconst 2, 51, 2, 0, 0), (51, .irem, 52, 0, 0, 0), (52, .ifCond .ne 8, 55, 60, 0, 0), (55, .bipush (-100), 57, 100, 1, 0), (57, .goto 5, 60, 62, 0, 0), (60, .bipush 100, 62, 100, 0, 0), (62, .iadd, 63, 0, 0, 0), (63, .ireturn, 64, 0, 0, 0), (64, .aload_n 0, 65, 0, 0, 0), (65, .iload_n 1, 66, 0, 0, 0), (66, .iload_n 2, 67, 0, 0, 0), (67, .invokevirtual 202, 70, 203, 3, 7), (70, .ireturn, 71, 0, 0, 0)]
theorem ok_M_worthOf : am_okM 201 cd_M_worthOf := by unfold am_okM; rw [am_m_201]; decide +kernel
/-- ThingsThrownModel.sumAt(I)I -/
abbrev n_M_sumAt : Nat := 202
def cd_M_sumAt : List Am_E := [(0, .iconst 0, 1, 0, 0, 0), (1, .istore_n 2, 2, 0, 0, 0), (2, .iconst 0, 3, 0, 0, 0), (3, .istore_n 3, 4, 0, 0, 0), (4, .iload_n 3, 5, 0, 0, 0), (5, .aload_n 0, 6, 0, 0, 0), (6, .getfield 95, 9, 7, 2, 0), (9, .if_icmp .ge 20, 12, 29, 0, 0), (12, .iload_n 2, 13, 0, 0, 0), (13, .aload_n 0, 14, 0, 0, 0), (14, .getfield 7, 17, 7, 0, 0), (17, .iload_n 1, 18, 0, 0, 0), (18, .iload_n 3, 19, 0, 0, 0), (19, .iadd, 20, 0, 0, 0), (20, .iaload, 21, 0, 0, 0), (21, .iadd, 22, 0, 0, 0), (22, .istore_n 2, 23, 0, 0, 0), (23, .iinc 3 1, 26, 1, 0, 0), (26, .goto (-22), 29, 4, 0, 0), (29, .iload_n 2, 30, 0, 0, 0), (30, .ireturn, 31, 0, 0, 0)]
theorem ok_M_sumAt : am_okM 202 cd_M_sumAt := by unfold am_okM; rw [am_m_202]; decide +kernel
/-- ThingsThrownModel.bestOf(II)I -/
abbrev n_M_bestOf : Nat := 203
def cd_M_bestOf : List Am_E := [(0, .ldc 195, 2, 99999, 1, 0), (2, .istore_n 3, 3, 0, 0, 0), (3, .iconst 0, 4, 0, 0, 0), (4, .istore 4, 6, 0, 0, 0), (6, .iload 4, 8, 0, 0, 0), (8, .bipush 7, 10, 7, 0, 0), (10, .if_icmp .ge 83, 13, 93, 0, 0), (13, .aload_n 0, 14, 0, 0, 0), (14, .getfield 45, 17, 7, 16, 0), (17, .iload_n 1, 18, 0, 0, 0), (18, .iconst 1, 19, 1, 0, 0), (19, .iadd, 20, 0, 0, 0), (20, .invokestatic 196, 23, 200, 1, 0), (23, .bipush 7, 25, 7, 0, 0), (25, .iload_n 2, 26, 0, 0, 0), (26, .imul, 27, 0, 0, 0), (27, .iadd, 28, 0, 0, 0), (28, .iload 4, 30, 0, 0, 0), (30, .iadd, 31, 0, 0, 0), (31, .iaload, 32, 0, 0, 0), (32, .istore 5, 34, 0, 0, 0), (34, .iload 5, 36, 0, 0, 0), (36, .ldc 195, 38, 99999, 1, 0), (38, .if_icmp .eq 34, 41, 72, 0, 0), (41, .iload_n 3, 42, 0, 0, 0), (42, .ldc 195, 44, 99999, 1, 0), (44, .if_icmp .eq 24, 47, 68, 0, 0), (47, .iload_n 1, 48, 0, 0, 0), (48, .iconst 2, 49, 2, 0, 0), (49, .irem, 50, 0, 0, 0), (50, .ifCond .ne 12, 53, 62, 0, 0), (53, .iload 5, 55, 0, 0, 0), (55, .iload_n 3, 56, 0, 0, 0), (56, .if_icmp .le 16, 59, 72, 0, 0), (59, .goto 9, 62, 68, 0, 0), (62, .iload 5, 64, 0, 0, 0), (64, .iload_n 3, 65, 0, 0, 0), (65, .if_icmp .ge 7, 68, 72, 0, 0), (68, .iconst 1, 69, 1, 0, 0), (69, .goto 4, 72, 73, 0, 0), (72, .iconst 0, 73, 0, 0, 0), (73, .istore 6, 75, 0, 0, 0), (75, .iload 6, 77, 0, 0, 0), (77, .ifCond .eq 8, 80, 85, 0, 0), (80, .iload 5, 82, 0, 0, 0), (82, .goto 4, 85, 86, 0, 0), (85, .iload_n 3, 86, 0, 0, 0), (86, .istore_n 3, 87, 0, 0, 0), (87, .iinc 4 1, 90, 1, 0, 0), (90, .goto (-84), 93, 6, 0, 0), (93, .iload_n 3, 94, 0, 0, 0), (94, .ireturn, 95, 0, 0, 0)]
theorem ok_M_bestOf : am_okM 203 cd_M_bestOf := by unfold am_okM; rw [am_m_203]; decide +kernel
/-- ThingsThrownModel.odds(II)I -/
abbrev n_M_odds : Nat := 204
def cd_M_odds : List Am_E := [(0, .aload_n 0, 1, 0, 0, 0), (1, .iload_n 1, 2, 0, 0, 0), (2, .iload_n 2, 3, 0, 0, 0), (3, .iconst 1, 4, 1, 0, 0), (4, .invokevirtual 224, 7, 205, 4, 7), (7, .ireturn, 8, 0, 0, 0)]
theorem ok_M_odds : am_okM 204 cd_M_odds := by unfold am_okM; rw [am_m_204]; decide +kernel
/-- ThingsThrownModel.chances(IIZ)I -/
abbrev n_M_chances : Nat := 205
def cd_M_chances : List Am_E := [(0, .aload_n 0, 1, 0, 0, 0), (1, .getfield 95, 4, 7, 2, 0), (4, .ifCond .ne 6, 7, 10, 0, 0), (7, .bipush (-4), 9, 4, 1, 0), (9, .ireturn, 10, 0, 0, 0), (10, .aload_n 0, 11, 0, 0, 0), (11, .iload_n 1, 12, 0, 0, 0), (12, .iload_n 2, 13, 0, 0, 0), (13, .invokevirtual 208, 16, 206, 3, 7), (16, .istore 4, 18, 0, 0, 0), (18, .iload 4, 20, 0, 0, 0), (20, .ifCond .ge 6, 23, 26, 0, 0), (23, .iload 4, 25, 0, 0, 0), (25, .ireturn, 26, 0, 0, 0), (26, .lconst 0, 27, 0, 0, 0), (27, .lstore 5, 29, 0, 0, 0), (29, .lconst 1, 30, 1, 0, 0), (30, .lstore 7, 32, 0, 0, 0), (32, .iconst 0, 33, 0, 0, 0), (33, .istore 9, 35, 0, 0, 0), (35, .iload 9, 37, 0, 0, 0), (37, .aload_n 0, 38, 0, 0, 0), (38, .getfield 22, 41, 7, 5, 0), (41, .iload_n 1, 42, 0, 0, 0), (42, .iaload, 43, 0, 0, 0), (43, .if_icmp .ge 17, 46, 60, 0, 0), (46, .lload 7, 48, 0, 0, 0), (48, .ldc2_w 211, 51, 12, 0, 0), (51, .lmul, 52, 0, 0, 0), (52, .lstore 7, 54, 0, 0, 0), (54, .iinc 9 1, 57, 1, 0, 0), (57, .goto (-22), 60, 35, 0, 0), (60, .iconst 0, 61, 0, 0, 0), (61, .istore 9, 63, 0, 0, 0), (63, .iload 9, 65, 0, 0, 0), (65, .iconst 1, 66, 1, 0, 0), (66, .aload_n 0, 67, 0, 0, 0), (67, .getfield 22, 70, 7, 5, 0), (70, .iload_n 1, 71, 0, 0, 0), (71, .iaload, 72, 0, 0, 0), (72, .ishl, 73, 0, 0, 0), (73, .if_icmp .ge 58, 76, 131, 0, 0), (76, .aload_n 0, 77, 0, 0, 0), (77, .iload_n 1, 78, 0, 0, 0), (78, .iload 9, 80, 0, 0, 0), (80, .invokevirtual 213, 83, 207, 3, 7), (83, .istore 10, 85, 0, 0, 0), (85, .lload 5, 87, 0, 0, 0), (87, .aload_n 0, 88, 0, 0, 0), (88, .iload_n 1, 89, 0, 0, 0), (89, .iload_n 2, 90, 0, 0, 0), (90, .iload 9, 92, 0, 0, 0), (92, .invokevirtual 216, 95, 208, 4, 7), (95, .iload_n 3, 96, 0, 0, 0), (96, .ifCond .eq 22, 99, 118, 0, 0), (99, .iload 10, 101, 0, 0, 0), (101, .aload_n 0, 102, 0, 0, 0), (102, .getfield 22, 105, 7, 5, 0), (105, .iload_n 1, 106, 0, 0, 0), (106, .iaload, 107, 0, 0, 0), (107, .if_icmp .ne 7, 110, 114, 0, 0), (110, .iconst 1, 111, 1, 0, 0), (111, .goto 9, 114, 120, 0, 0), (114, .iconst 0, 115, 0, 0, 0), (115, .goto 5, 118, 120, 0, 0), (118, .iload 10, 120, 0, 0, 0), (120, .i2l, 121, 0, 0, 0), (121, .lmul, 122, 0, 0, 0), (122, .ladd, 123, 0, 0, 0), (123, .lstore 5, 125, 0, 0, 0), (125, .iinc 9 1, 128, 1, 0, 0), (128, .goto (-65), 131, 63, 0, 0), (131, .aload_n 0, 132, 0, 0, 0), (132, .lload 5, 134, 0, 0, 0), (134, .lload 7, 136, 0, 0, 0), (136, .invokevirtual 220, 139, 209, 3, 7), (139, .iconst 1, 140, 1, 0, 0), (140, .ireturn, 141, 0, 0, 0)]
theorem ok_M_chances : am_okM 205 cd_M_chances := by unfold am_okM; rw [am_m_205]; decide +kernel
/-- ThingsThrownModel.wrongChance(II)I -/
abbrev n_M_wrongChance : Nat := 206
def cd_M_wrongChance : List Am_E := [(0, .iload_n 2, 1, 0, 0, 0), (1, .iconst 0, 2, 0, 0, 0), (2, .bipush 12, 4, 12, 0, 0), (4, .invokestatic 55, 7, 134, 3, 0), (7, .ifCond .ne 7, 10, 14, 0, 0), (10, .iconst (-1), 11, 1, 1, 0), (11, .goto 11, 14, 22, 0, 0), (14, .aload_n 0, 15, 0, 0, 0), (15, .iload_n 1, 16, 0, 0, 0), (16, .iconst 1, 17, 1, 0, 0), (17, .bipush 6, 19, 6, 0, 0), (19, .invokevirtual 153, 22, 181, 4, 7), (22, .ireturn, 23, 0, 0, 0)]
theorem ok_M_wrongChance : am_okM 206 cd_M_wrongChance := by unfold am_okM; rw [am_m_206]; decide +kernel
/-- ThingsThrownModel.madeWith(II)I -/
abbrev n_M_madeWith : Nat := 207
def cd_M_madeWith : List Am_E := [(0, .aload_n 0, 1, 0, 0, 0), (1, .invokevirtual 157, 4, 182, 1, 7), (4, .iconst 0, 5, 0, 0, 0), (5, .istore_n 3, 6, 0, 0, 0), (6, .iload_n 3, 7, 0, 0, 0), (7, .aload_n 0, 8, 0, 0, 0), (8, .getfield 22, 11, 7, 5, 0), (11, .iload_n 1, 12, 0, 0, 0), (12, .iaload, 13, 0, 0, 0), (13, .if_icmp .ge 82, 16, 95, 0, 0), (16, .aload_n 0, 17, 0, 0, 0), (17, .getfield 19, 20, 7, 4, 0), (20, .bipush 40, 22, 40, 0, 0), (22, .iload_n 1, 23, 0, 0, 0), (23, .imul, 24, 0, 0, 0), (24, .iload_n 3, 25, 0, 0, 0), (25, .iadd, 26, 0, 0, 0), (26, .iaload, 27, 0, 0, 0), (27, .iload_n 2, 28, 0, 0, 0), (28, .iload_n 3, 29, 0, 0, 0), (29, .invokestatic 122, 32, 166, 2, 0), (32, .ifCond .eq 7, 35, 39, 0, 0), (35, .iconst 1, 36, 1, 0, 0), (36, .goto 4, 39, 40, 0, 0), (39, .iconst 0, 40, 0, 0, 0), (40, .iadd, 41, 0, 0, 0), (41, .istore 4, 43, 0, 0, 0), (43, .aload_n 0, 44, 0, 0, 0), (44, .sipush 2136, 47, 2136, 0, 0), (47, .invokevirtual 160, 50, 183, 2, 7), (50, .iload 4, 52, 0, 0, 0), (52, .bipush 7, 54, 7, 0, 0), (54, .if_icmp .le 8, 57, 62, 0, 0), (57, .bipush 7, 59, 7, 0, 0), (59, .goto 5, 62, 64, 0, 0), (62, .iload 4, 64, 0, 0, 0), (64, .istore 4, 66, 0, 0, 0), (66, .aload_n 0, 67, 0, 0, 0), (67, .sipush 2136, 70, 2136, 0, 0), (70, .iload 4, 72, 0, 0, 0), (72, .invokevirtual 126, 75, 163, 3, 7), (75, .ifCond .ne 5, 78, 80, 0, 0), (78, .iload_n 3, 79, 0, 0, 0), (79, .ireturn, 80, 0, 0, 0), (80, .aload_n 0, 81, 0, 0, 0), (81, .sipush 2136, 84, 2136, 0, 0), (84, .iload 4, 86, 0, 0, 0), (86, .invokevirtual 143, 89, 169, 3, 7), (89, .iinc 3 1, 92, 1, 0, 0), (92, .goto (-86), 95, 6, 0, 0), (95, .aload_n 0, 96, 0, 0, 0), (96, .getfield 22, 99, 7, 5, 0), (99, .iload_n 1, 100, 0, 0, 0), (100, .iaload, 101, 0, 0, 0), (101, .ireturn, 102, 0, 0, 0)]
theorem ok_M_madeWith : am_okM 207 cd_M_madeWith := by unfold am_okM; rw [am_m_207]; decide +kernel
/-- ThingsThrownModel.chanceOf(III)J -/
abbrev n_M_chanceOf : Nat := 208
def cd_M_chanceOf : List Am_E := [(0, .lconst 1, 1, 1, 0, 0), (1, .lstore 4, 3, 0, 0, 0), (3, .iconst 0, 4, 0, 0, 0), (4, .istore 6, 6, 0, 0, 0), (6, .iload 6, 8, 0, 0, 0), (8, .aload_n 0, 9, 0, 0, 0), (9, .getfield 22, 12, 7, 5, 0), (12, .iload_n 1, 13, 0, 0, 0), (13, .iaload, 14, 0, 0, 0), (14, .if_icmp .ge 33, 17, 47, 0, 0), (17, .lload 4, 19, 0, 0, 0), (19, .iload_n 3, 20, 0, 0, 0), (20, .iload 6, 22, 0, 0, 0), (22, .invokestatic 122, 25, 166, 2, 0), (25, .ifCond .eq 8, 28, 33, 0, 0), (28, .iload_n 2, 29, 0, 0, 0), (29, .i2l, 30, 0, 0, 0), (30, .goto 8, 33, 38, 0, 0), (33, .bipush 12, 35, 12, 0, 0), (35, .iload_n 2, 36, 0, 0, 0), (36, .isub, 37, 0, 0, 0), (37, .i2l, 38, 0, 0, 0), (38, .lmul, 39, 0, 0, 0), (39, .lstore 4, 41, 0, 0, 0), (41, .iinc 6 1, 44, 1, 0, 0), (44, .goto (-38), 47, 6, 0, 0), (47, .lload 4, 49, 0, 0, 0), (49, .lreturn, 50, 0, 0, 0)]
theorem ok_M_chanceOf : am_okM 208 cd_M_chanceOf := by unfold am_okM; rw [am_m_208]; decide +kernel
/-- ThingsThrownModel.tellPart(JJ)V -/
abbrev n_M_tellPart : Nat := 209
def cd_M_tellPart : List Am_E := [(0, .lload_n 1, 1, 0, 0, 0), (1, .lstore 5, 3, 0, 0, 0), (3, .lload_n 3, 4, 0, 0, 0), (4, .lstore 7, 6, 0, 0, 0), (6, .lload 7, 8, 0, 0, 0), (8, .lconst 0, 9, 0, 0, 0), (9, .lcmp, 10, 0, 0, 0), (10, .ifCond .eq 21, 13, 31, 0, 0), (13, .lload 5, 15, 0, 0, 0), (15, .lload 7, 17, 0, 0, 0), (17, .lrem, 18, 0, 0, 0), (18, .lstore 9, 20, 0, 0, 0), (20, .lload 7, 22, 0, 0, 0), (22, .lstore 5, 24, 0, 0, 0), (24, .lload 9, 26, 0, 0, 0), (26, .lstore 7, 28, 0, 0, 0), (28, .goto (-22), 31, 6, 0, 0), (31, .aload_n 0, 32, 0, 0, 0), (32, .lload_n 1, 33, 0, 0, 0), (33, .lload 5, 35, 0, 0, 0), (35, .ldiv, 36, 0, 0, 0), (36, .putfield 183, 39, 7, 9, 0), (39, .aload_n 0, 40, 0, 0, 0), (40, .lload_n 3, 41, 0, 0, 0), (41, .lload 5, 43, 0, 0, 0), (43, .ldiv, 44, 0, 0, 0), (44, .putfield 32, 47, 7, 10, 0), (47, .return_, 48, 0, 0, 0)]
theorem ok_M_tellPart : am_okM 209 cd_M_tellPart := by unfold am_okM; rw [am_m_209]; decide +kernel
/-- ThingsThrownModel.mid(II)I -/
abbrev n_M_mid : Nat := 210
def cd_M_mid : List Am_E := [(0, .aload_n 0, 1, 0, 0, 0), (1, .iload_n 1, 2, 0, 0, 0), (2, .iload_n 2, 3, 0, 0, 0), (3, .iconst 0, 4, 0, 0, 0), (4, .invokevirtual 224, 7, 205, 4, 7), (7, .ireturn, 8, 0, 0, 0)]
theorem ok_M_mid : am_okM 210 cd_M_mid := by unfold am_okM; rw [am_m_210]; decide +kernel
/-- ThingsThrownModel.lots(II)I -/
abbrev n_M_lots : Nat := 211
def cd_M_lots : List Am_E := [(0, .aload_n 0, 1, 0, 0, 0), (1, .getfield 95, 4, 7, 2, 0), (4, .ifCond .ne 6, 7, 10, 0, 0), (7, .bipush (-4), 9, 4, 1, 0), (9, .ireturn, 10, 0, 0, 0), (10, .iload_n 1, 11, 0, 0, 0), (11, .iconst 1, 12, 1, 0, 0), (12, .bipush 20, 14, 20, 0, 0), (14, .invokestatic 55, 17, 134, 3, 0), (17, .ifCond .eq 13, 20, 30, 0, 0), (20, .iload_n 2, 21, 0, 0, 0), (21, .iconst 1, 22, 1, 0, 0), (22, .ldc 228, 24, 2147483646, 0, 0), (24, .invokestatic 55, 27, 134, 3, 0), (27, .ifCond .ne 5, 30, 32, 0, 0), (30, .iconst (-1), 31, 1, 1, 0), (31, .ireturn, 32, 0, 0, 0), (32, .aload_n 0, 33, 0, 0, 0), (33, .getfield 7, 36, 7, 0, 0), (36, .sipush 533, 39, 533, 0, 0), (39, .iaload, 40, 0, 0, 0), (40, .iload_n 1, 41, 0, 0, 0), (41, .iadd, 42, 0, 0, 0), (42, .bipush 40, 44, 40, 0, 0), (44, .if_icmp .le 6, 47, 50, 0, 0), (47, .bipush (-2), 49, 2, 1, 0), (49, .ireturn, 50, 0, 0, 0), (50, .iload_n 2, 51, 0, 0, 0), (51, .i2l, 52, 0, 0, 0), (52, .lstore_n 3, 53, 0, 0, 0), (53, .iconst 0, 54, 0, 0, 0), (54, .istore 5, 56, 0, 0, 0), (56, .iload 5, 58, 0, 0, 0), (58, .iload_n 1, 59, 0, 0, 0), (59, .if_icmp .ge 29, 62, 88, 0, 0), (62, .lload_n 3, 63, 0, 0, 0), (63, .ldc2_w 229, 66, 48271, 0, 0), (66, .lmul, 67, 0, 0, 0), (67, .ldc2_w 231, 70, 2147483647, 0, 0), (70, .lrem, 71, 0, 0, 0), (71, .lstore_n 3, 72, 0, 0, 0), (72, .aload_n 0, 73, 0, 0, 0), (73, .invokevirtual 140, 76, 167, 1, 7), (76, .aload_n 0, 77, 0, 0, 0), (77, .lload_n 3, 78, 0, 0, 0), (78, .l2i, 79, 0, 0, 0), (79, .invokevirtual 233, 82, 212, 2, 7), (82, .iinc 5 1, 85, 1, 0, 0), (85, .goto (-29), 88, 56, 0, 0), (88, .aload_n 0, 89, 0, 0, 0), (89, .iconst 0, 90, 0, 0, 0), (90, .invokevirtual 119, 93, 165, 2, 7), (93, .ireturn, 94, 0, 0, 0)]
theorem ok_M_lots : am_okM 211 cd_M_lots := by unfold am_okM; rw [am_m_211]; decide +kernel
/-- ThingsThrownModel.doByLot(I)V -/
abbrev n_M_doByLot : Nat := 212
def cd_M_doByLot : List Am_E := [(0, .aload_n 0, 1, 0, 0, 0), (1, .iconst 0, 2, 0, 0, 0), (2, .invokevirtual 116, 5, 164, 2, 7), (5, .istore_n 2, 6, 0, 0, 0), (6, .iload_n 2, 7, 0, 0, 0), (7, .bipush (-9), 9, 9, 1, 0), (9, .if_icmp .ne 11, 12, 20, 0, 0), (12, .aload_n 0, 13, 0, 0, 0), (13, .iconst 0, 14, 0, 0, 0), (14, .invokevirtual 129, 17, 170, 2, 7), (17, .goto 74, 20, 91, 0, 0), (20, .iload_n 1, 21, 0, 0, 0), (21, .bipush 8, 23, 8, 0, 0), (23, .idiv, 24, 0, 0, 0), (24, .bipush 8, 26, 8, 0, 0), (26, .irem, 27, 0, 0, 0), (27, .bipush 7, 29, 7, 0, 0), (29, .if_icmp .ne 17, 32, 46, 0, 0), (32, .aload_n 0, 33, 0, 0, 0), (33, .iload_n 2, 34, 0, 0, 0), (34, .iload_n 1, 35, 0, 0, 0), (35, .aload_n 0, 36, 0, 0, 0), (36, .getfield 95, 39, 7, 2, 0), (39, .irem, 40, 0, 0, 0), (40, .invokevirtual 147, 43, 173, 3, 7), (43, .goto 48, 46, 91, 0, 0), (46, .iconst 0, 47, 0, 0, 0), (47, .istore_n 3, 48, 0, 0, 0), (48, .iload_n 3, 49, 0, 0, 0), (49, .bipush 7, 51, 7, 0, 0), (51, .if_icmp .ge 40, 54, 91, 0, 0), (54, .iload_n 1, 55, 0, 0, 0), (55, .bipush 7, 57, 7, 0, 0), (57, .irem, 58, 0, 0, 0), (58, .iload_n 3, 59, 0, 0, 0), (59, .iadd, 60, 0, 0, 0), (60, .bipush 7, 62, 7, 0, 0), (62, .irem, 63, 0, 0, 0), (63, .iconst 1, 64, 1, 0, 0), (64, .iadd, 65, 0, 0, 0), (65, .istore 4, 67, 0, 0, 0), (67, .aload_n 0, 68, 0, 0, 0), (68, .iconst 0, 69, 0, 0, 0), (69, .iload 4, 71, 0, 0, 0), (71, .invokevirtual 126, 74, 163, 3, 7), (74, .ifCond .eq 11, 77, 85, 0, 0), (77, .aload_n 0, 78, 0, 0, 0), (78, .iconst 0, 79, 0, 0, 0), (79, .iload 4, 81, 0, 0, 0), (81, .invokevirtual 143, 84, 169, 3, 7), (84, .return_, 85, 0, 0, 0), (85, .iinc 3 1, 88, 1, 0, 0), (88, .goto (-40), 91, 48, 0, 0), (91, .return_, 92, 0, 0, 0)]
theorem ok_M_doByLot : am_okM 212 cd_M_doByLot := by unfold am_okM; rw [am_m_212]; decide +kernel
/-- ThingsThrownModel.asked()I -/
abbrev n_M_asked : Nat := 213
def cd_M_asked : List Am_E := [(0, .aload_n 0, 1, 0, 0, 0), (1, .getfield 52, 4, 7, 8, 0), (4, .ireturn, 5, 0, 0, 0)]
theorem ok_M_asked : am_okM 213 cd_M_asked := by unfold am_okM; rw [am_m_213]; decide +kernel
/-- ThingsThrownModel.upper()J -/
abbrev n_M_upper : Nat := 214
def cd_M_upper : List Am_E := [(0, .aload_n 0, 1, 0, 0, 0), (1, .getfield 183, 4, 7, 9, 0), (4, .lreturn, 5, 0, 0, 0)]
theorem ok_M_upper : am_okM 214 cd_M_upper := by unfold am_okM; rw [am_m_214]; decide +kernel
/-- ThingsThrownModel.lower()J -/
abbrev n_M_lower : Nat := 215
def cd_M_lower : List Am_E := [(0, .aload_n 0, 1, 0, 0, 0), (1, .getfield 32, 4, 7, 10, 0), (4, .lreturn, 5, 0, 0, 0)]
theorem ok_M_lower : am_okM 215 cd_M_lower := by unfold am_okM; rw [am_m_215]; decide +kernel
/-- ThingsThrownModel.count(I)I -/
abbrev n_M_count : Nat := 216
def cd_M_count : List Am_E := [(0, .iload_n 1, 1, 0, 0, 0), (1, .tableswitch 150 0 11 #[63, 68, 76, 85, 91, 97, 103, 108, 115, 122, 132, 141], 64, 0, 0, 0), (64, .aload_n 0, 65, 0, 0, 0), (65, .getfield 95, 68, 7, 2, 0), (68, .ireturn, 69, 0, 0, 0), (69, .aload_n 0, 70, 0, 0, 0), (70, .getfield 7, 73, 7, 0, 0), (73, .bipush 12, 75, 12, 0, 0), (75, .iaload, 76, 0, 0, 0), (76, .ireturn, 77, 0, 0, 0), (77, .aload_n 0, 78, 0, 0, 0), (78, .getfield 7, 81, 7, 0, 0), (81, .sipush 533, 84, 533, 0, 0), (84, .iaload, 85, 0, 0, 0), (85, .ireturn, 86, 0, 0, 0), (86, .aload_n 0, 87, 0, 0, 0), (87, .iconst 0, 88, 0, 0, 0), (88, .invokevirtual 119, 91, 165, 2, 7), (91, .ireturn, 92, 0, 0, 0), (92, .aload_n 0, 93, 0, 0, 0), (93, .iconst 0, 94, 0, 0, 0), (94, .invokevirtual 116, 97, 164, 2, 7), (97, .ireturn, 98, 0, 0, 0), (98, .aload_n 0, 99, 0, 0, 0), (99, .iconst 0, 100, 0, 0, 0), (100, .invokevirtual 199, 103, 202, 2, 7), (103, .ireturn, 104, 0, 0, 0), (104, .aload_n 0, 105, 0, 0, 0), (105, .invokevirtual 236, 108, 217, 1, 7), (108, .ireturn, 109, 0, 0, 0), (109, .aload_n 0, 110, 0, 0, 0), (110, .iconst 1, 111, 1, 0, 0), (111, .iconst 4, 112, 4, 0, 0), (112, .invokevirtual 240, 115, 218, 3, 7), (115, .ireturn, 116, 0, 0, 0), (116, .aload_n 0, 117, 0, 0, 0), (117, .iconst 3, 118, 3, 0, 0), (118, .iconst 5, 119, 5, 0, 0), (119, .invokevirtual 240, 122, 218, 3, 7), (122, .ireturn, 123, 0, 0, 0), (123, .aload_n 0, 124, 0, 0, 0), (124, .getfield 22, 127, 7, 5, 0), (127, .bipush 6, 129, 6, 0, 0), (129, .invokestatic 243, 132, 219, 2, 0), (132, .ireturn, 133, 0, 0, 0), (133, .aload_n 0, 134, 0, 0, 0), (134, .getfield 29, 137, 7, 7, 0), (137, .iconst 4, 138, 4, 0, 0), (138, .invokestatic 243, 141, 219, 2, 0), (141, .ireturn, 142, 0, 0, 0), (142, .aload_n 0, 143, 0, 0, 0), (143, .getfield 16, 146, 7, 3, 0), (146, .iconst 3, 147, 3, 0, 0), (147, .invokestatic 243, 150, 219, 2, 0), (150, .ireturn, 151, 0, 0, 0), (151, .iconst (-1), 152, 1, 1, 0), (152, .ireturn, 153, 0, 0, 0)]
theorem ok_M_count : am_okM 216 cd_M_count := by unfold am_okM; rw [am_m_216]; decide +kernel
/-- ThingsThrownModel.throwsMade()I -/
abbrev n_M_throwsMade : Nat := 217
def cd_M_throwsMade : List Am_E := [(0, .iconst 0, 1, 0, 0, 0), (1, .istore_n 1, 2, 0, 0, 0), (2, .iconst 0, 3, 0, 0, 0), (3, .istore_n 2, 4, 0, 0, 0), (4, .iload_n 2, 5, 0, 0, 0), (5, .aload_n 0, 6, 0, 0, 0), (6, .getfield 95, 9, 7, 2, 0), (9, .if_icmp .ge 21, 12, 30, 0, 0), (12, .iload_n 1, 13, 0, 0, 0), (13, .aload_n 0, 14, 0, 0, 0), (14, .getfield 7, 17, 7, 0, 0), (17, .bipush 6, 19, 6, 0, 0), (19, .iload_n 2, 20, 0, 0, 0), (20, .iadd, 21, 0, 0, 0), (21, .iaload, 22, 0, 0, 0), (22, .iadd, 23, 0, 0, 0), (23, .istore_n 1, 24, 0, 0, 0), (24, .iinc 2 1, 27, 1, 0, 0), (27, .goto (-23), 30, 4, 0, 0), (30, .iload_n 1, 31, 0, 0, 0), (31, .ireturn, 32, 0, 0, 0)]
theorem ok_M_throwsMade : am_okM 217 cd_M_throwsMade := by unfold am_okM; rw [am_m_217]; decide +kernel
/-- ThingsThrownModel.ofKinds(II)I -/
abbrev n_M_ofKinds : Nat := 218
def cd_M_ofKinds : List Am_E := [(0, .iconst 0, 1, 0, 0, 0), (1, .istore_n 3, 2, 0, 0, 0), (2, .iconst 0, 3, 0, 0, 0), (3, .istore 4, 5, 0, 0, 0), (5, .iload 4, 7, 0, 0, 0), (7, .aload_n 0, 8, 0, 0, 0), (8, .getfield 95, 11, 7, 2, 0), (11, .if_icmp .ge 39, 14, 50, 0, 0), (14, .iload_n 3, 15, 0, 0, 0), (15, .aload_n 0, 16, 0, 0, 0), (16, .getfield 13, 19, 7, 1, 0), (19, .iload 4, 21, 0, 0, 0), (21, .iaload, 22, 0, 0, 0), (22, .iload_n 1, 23, 0, 0, 0), (23, .if_icmp .eq 14, 26, 37, 0, 0), (26, .aload_n 0, 27, 0, 0, 0), (27, .getfield 13, 30, 7, 1, 0), (30, .iload 4, 32, 0, 0, 0), (32, .iaload, 33, 0, 0, 0), (33, .iload_n 2, 34, 0, 0, 0), (34, .if_icmp .ne 7, 37, 41, 0, 0), (37, .iconst 1, 38, 1, 0, 0), (38, .goto 4, 41, 42, 0, 0), (41, .iconst 0, 42, 0, 0, 0), (42, .iadd, 43, 0, 0, 0), (43, .istore_n 3, 44, 0, 0, 0), (44, .iinc 4 1, 47, 1, 0, 0), (47, .goto (-42), 50, 5, 0, 0), (50, .iload_n 3, 51, 0, 0, 0), (51, .ireturn, 52, 0, 0, 0)]
theorem ok_M_ofKinds : am_okM 218 cd_M_ofKinds := by unfold am_okM; rw [am_m_218]; decide +kernel
/-- ThingsThrownModel.thereAre([II)I -/
abbrev n_M_thereAre : Nat := 219
def cd_M_thereAre : List Am_E := [(0, .iconst 0, 1, 0, 0, 0), (1, .istore_n 2, 2, 0, 0, 0), (2, .iconst 0, 3, 0, 0, 0), (3, .istore_n 3, 4, 0, 0, 0), (4, .iload_n 3, 5, 0, 0, 0), (5, .iload_n 1, 6, 0, 0, 0), (6, .if_icmp .ge 23, 9, 29, 0, 0), (9, .iload_n 2, 10, 0, 0, 0), (10, .aload_n 0, 11, 0, 0, 0), (11, .iload_n 3, 12, 0, 0, 0), (12, .iaload, 13, 0, 0, 0), (13, .ifCond .ge 7, 16, 20, 0, 0), (16, .iconst 0, 17, 0, 0, 0), (17, .goto 4, 20, 21, 0, 0), (20, .iconst 1, 21, 1, 0, 0), (21, .iadd, 22, 0, 0, 0), (22, .istore_n 2, 23, 0, 0, 0), (23, .iinc 3 1, 26, 1, 0, 0), (26, .goto (-22), 29, 4, 0, 0), (29, .iload_n 2, 30, 0, 0, 0), (30, .ireturn, 31, 0, 0, 0)]
theorem ok_M_thereAre : am_okM 219 cd_M_thereAre := by unfold am_okM; rw [am_m_219]; decide +kernel
/-- ThingsThrownModel.finding()I -/
abbrev n_M_finding : Nat := 220
def cd_M_finding : List Am_E := [(0, .aload_n 0, 1, 0, 0, 0), (1, .getfield 48, 4, 7, 11, 0), (4, .ireturn, 5, 0, 0, 0)]
theorem ok_M_finding : am_okM 220 cd_M_finding := by unfold am_okM; rw [am_m_220]; decide +kernel
/-- ThingsThrownModel.findings(I)I -/
abbrev n_M_findings : Nat := 221
def cd_M_findings : List Am_E := [(0, .iload_n 1, 1, 0, 0, 0), (1, .iconst 1, 2, 1, 0, 0), (2, .iconst 5, 3, 5, 0, 0), (3, .invokestatic 55, 6, 134, 3, 0), (6, .ifCond .eq 12, 9, 18, 0, 0), (9, .aload_n 0, 10, 0, 0, 0), (10, .getfield 36, 13, 7, 12, 0), (13, .iload_n 1, 14, 0, 0, 0), (14, .iaload, 15, 0, 0, 0), (15, .goto 4, 18, 19, 0, 0), (18, .iconst (-1), 19, 1, 1, 0), (19, .ireturn, 20, 0, 0, 0)]
theorem ok_M_findings : am_okM 221 cd_M_findings := by unfold am_okM; rw [am_m_221]; decide +kernel
/-- ThingsThrownModel.digest()J -/
abbrev n_M_digest : Nat := 222
def cd_M_digest : List Am_E := [(0, .ldc2_w 247, 3, 17, 0, 0), (3, .lstore_n 1, 4, 0, 0, 0), (4, .iconst 0, 5, 0, 0, 0), (5, .istore_n 3, 6, 0, 0, 0), (6, .iload_n 3, 7, 0, 0, 0), (7, .bipush 12, 9, 12, 0, 0), (9, .if_icmp .ge 22, 12, 31, 0, 0), (12, .ldc2_w 249, 15, 31, 0, 0), (15, .lload_n 1, 16, 0, 0, 0), (16, .lmul, 17, 0, 0, 0), (17, .aload_n 0, 18, 0, 0, 0), (18, .iload_n 3, 19, 0, 0, 0), (19, .invokevirtual 251, 22, 216, 2, 7), (22, .i2l, 23, 0, 0, 0), (23, .ladd, 24, 0, 0, 0), (24, .lstore_n 1, 25, 0, 0, 0), (25, .iinc 3 1, 28, 1, 0, 0), (28, .goto (-22), 31, 6, 0, 0), (31, .iconst 0, 32, 0, 0, 0), (32, .istore_n 3, 33, 0, 0, 0), (33, .iload_n 3, 34, 0, 0, 0), (34, .aload_n 0, 35, 0, 0, 0), (35, .getfield 95, 38, 7, 2, 0), (38, .if_icmp .ge 65, 41, 103, 0, 0), (41, .ldc2_w 249, 44, 31, 0, 0), (44, .ldc2_w 249, 47, 31, 0, 0), (47, .ldc2_w 249, 50, 31, 0, 0), (50, .ldc2_w 249, 53, 31, 0, 0), (53, .lload_n 1, 54, 0, 0, 0), (54, .lmul, 55, 0, 0, 0), (55, .aload_n 0, 56, 0, 0, 0), (56, .getfield 13, 59, 7, 1, 0), (59, .iload_n 3, 60, 0, 0, 0), (60, .iaload, 61, 0, 0, 0), (61, .i2l, 62, 0, 0, 0), (62, .ladd, 63, 0, 0, 0), (63, .lmul, 64, 0, 0, 0), (64, .aload_n 0, 65, 0, 0, 0), (65, .getfield 7, 68, 7, 0, 0), (68, .iload_n 3, 69, 0, 0, 0), (69, .iaload, 70, 0, 0, 0), (70, .i2l, 71, 0, 0, 0), (71, .ladd, 72, 0, 0, 0), (72, .lmul, 73, 0, 0, 0), (73, .aload_n 0, 74, 0, 0, 0), (74, .getfield 13, 77, 7, 1, 0), (77, .iload_n 3, 78, 0, 0, 0), (78, .iaload, 79, 0, 0, 0), (79, .invokestatic 104, 82, 155, 1, 0), (82, .i2l, 83, 0, 0, 0), (83, .ladd, 84, 0, 0, 0), (84, .lmul, 85, 0, 0, 0), (85, .aload_n 0, 86, 0, 0, 0), (86, .getfield 7, 89, 7, 0, 0), (89, .bipush 6, 91, 6, 0, 0), (91, .iload_n 3, 92, 0, 0, 0), (92, .iadd, 93, 0, 0, 0), (93, .iaload, 94, 0, 0, 0), (94, .i2l, 95, 0, 0, 0), (95, .ladd, 96, 0, 0, 0), (96, .lstore_n 1, 97, 0, 0, 0), (97, .iinc 3 1, 100, 1, 0, 0), (100, .goto (-67), 103, 33, 0, 0), (103, .iconst 0, 104, 0, 0, 0), (104, .istore_n 3, 105, 0, 0, 0), (105, .iload_n 3, 106, 0, 0, 0), (106, .iconst 3, 107, 3, 0, 0), (107, .if_icmp .ge 23, 110, 130, 0, 0), (110, .ldc2_w 249, 113, 31, 0, 0), (113, .lload_n 1, 114, 0, 0, 0), (114, .lmul, 115, 0, 0, 0), (115, .aload_n 0, 116, 0, 0, 0), (116, .getfield 16, 119, 7, 3, 0), (119, .iload_n 3, 120, 0, 0, 0), (120, .iaload, 121, 0, 0, 0), (121, .i2l, 122, 0, 0, 0), (122, .ladd, 123, 0, 0, 0), (123, .lstore_n 1, 124, 0, 0, 0), (124, .iinc 3 1, 127, 1, 0, 0), (127, .goto (-22), 130, 105, 0, 0), (130, .iconst 0, 131, 0, 0, 0), (131, .istore_n 3, 132, 0, 0, 0), (132, .iload_n 3, 133, 0, 0, 0), (133, .bipush 6, 135, 6, 0, 0), (135, .if_icmp .ge 63, 138, 198, 0, 0), (138, .ldc2_w 249, 141, 31, 0, 0), (141, .lload_n 1, 142, 0, 0, 0), (142, .lmul, 143, 0, 0, 0), (143, .aload_n 0, 144, 0, 0, 0), (144, .getfield 22, 147, 7, 5, 0), (147, .iload_n 3, 148, 0, 0, 0), (148, .iaload, 149, 0, 0, 0), (149, .i2l, 150, 0, 0, 0), (150, .ladd, 151, 0, 0, 0), (151, .lstore_n 1, 152, 0, 0, 0), (152, .iconst 0, 153, 0, 0, 0), (153, .istore 4, 155, 0, 0, 0), (155, .iload 4, 157, 0, 0, 0), (157, .aload_n 0, 158, 0, 0, 0), (158, .getfield 22, 161, 7, 5, 0), (161, .iload_n 3, 162, 0, 0, 0), (162, .iaload, 163, 0, 0, 0), (163, .if_icmp .ge 29, 166, 192, 0, 0), (166, .ldc2_w 249, 169, 31, 0, 0), (169, .lload_n 1, 170, 0, 0, 0), (170, .lmul, 171, 0, 0, 0), (171, .aload_n 0, 172, 0, 0, 0), (172, .getfield 19, 175, 7, 4, 0), (175, .bipush 40, 177, 40, 0, 0), (177, .iload_n 3, 178, 0, 0, 0), (178, .imul, 179, 0, 0, 0), (179, .iload 4, 181, 0, 0, 0), (181, .iadd, 182, 0, 0, 0), (182, .iaload, 183, 0, 0, 0), (183, .i2l, 184, 0, 0, 0), (184, .ladd, 185, 0, 0, 0), (185, .lstore_n 1, 186, 0, 0, 0), (186, .iinc 4 1, 189, 1, 0, 0), (189, .goto (-34), 192, 155, 0, 0), (192, .iinc 3 1, 195, 1, 0, 0), (195, .goto (-63), 198, 132, 0, 0), (198, .iconst 0, 199, 0, 0, 0), (199, .istore_n 3, 200, 0, 0, 0), (200, .iload_n 3, 201, 0, 0, 0), (201, .iconst 4, 202, 4, 0, 0), (202, .if_icmp .ge 63, 205, 265, 0, 0), (205, .ldc2_w 249, 208, 31, 0, 0), (208, .lload_n 1, 209, 0, 0, 0), (209, .lmul, 210, 0, 0, 0), (210, .aload_n 0, 211, 0, 0, 0), (211, .getfield 29, 214, 7, 7, 0), (214, .iload_n 3, 215, 0, 0, 0), (215, .iaload, 216, 0, 0, 0), (216, .i2l, 217, 0, 0, 0), (217, .ladd, 218, 0, 0, 0), (218, .lstore_n 1, 219, 0, 0, 0), (219, .iconst 0, 220, 0, 0, 0), (220, .istore 4, 222, 0, 0, 0), (222, .iload 4, 224, 0, 0, 0), (224, .aload_n 0, 225, 0, 0, 0), (225, .getfield 29, 228, 7, 7, 0), (228, .iload_n 3, 229, 0, 0, 0), (229, .iaload, 230, 0, 0, 0), (230, .if_icmp .ge 29, 233, 259, 0, 0), (233, .ldc2_w 249, 236, 31, 0, 0), (236, .lload_n 1, 237, 0, 0, 0), (237, .lmul, 238, 0, 0, 0), (238, .aload_n 0, 239, 0, 0, 0), (239, .getfield 25, 242, 7, 6, 0), (242, .bipush 60, 244, 60, 0, 0), (244, .iload_n 3, 245, 0, 0, 0), (245, .imul, 246, 0, 0, 0), (246, .iload 4, 248, 0, 0, 0), (248, .iadd, 249, 0, 0, 0), (249, .baload, 250, 0, 0, 0), (250, .i2l, 251, 0, 0, 0), (251, .ladd, 252, 0, 0, 0), (252, .lstore_n 1, 253, 0, 0, 0), (253, .iinc 4 1, 256, 1, 0, 0), (256, .goto (-34), 259, 222, 0, 0), (259, .iinc 3 1, 262, 1, 0, 0), (262, .goto (-62), 265, 200, 0, 0), (265, .lload_n 1, 266, 0, 0, 0), (266, .lreturn, 267, 0, 0, 0)]
theorem ok_M_digest : am_okM 222 cd_M_digest := by unfold am_okM; rw [am_m_222]; decide +kernel
end
section
/-! ===== the reference's cells, and its small methods ===== -/
def b2 (v : Bool) : Int32 := bif v then nI 1 else nI 0
theorem b2_z {v : Bool} {A B : Prop} (t : v = false → A) (f : v = true → B) : (b2 v = 0 → A) ∧ (¬ b2 v = 0 → B) := by
  cases v with
  | false => exact ⟨fun _ => t rfl, fun h => absurd rfl h⟩
  | true => exact ⟨fun h => absurd h (by decide), fun _ => f rfl⟩
theorem b2_nz {v : Bool} {A B : Prop} (t : v = true → A) (f : v = false → B) : (¬ b2 v = 0 → A) ∧ (b2 v = 0 → B) := by
  cases v with
  | false => exact ⟨fun h => absurd rfl h, fun _ => f rfl⟩
  | true => exact ⟨fun _ => t rfl, fun h => absurd h (by decide)⟩
theorem b2_or (v : Bool) : b2 v = nI 0 ∨ b2 v = nI 1 := by cases v <;> simp [b2]
theorem bn_t {c A B : Prop} (h : ¬ c) (a : A) : (¬ c → A) ∧ (c → B) := ⟨fun _ => a, fun z => absurd z h⟩
theorem bn_f {c A B : Prop} (h : c) (b : B) : (¬ c → A) ∧ (c → B) := ⟨fun z => absurd h z, fun _ => b⟩
/-- the reference's cells: ints by the places of its fields, arrays by their handles -/
def mH (I : Nat → Int32) (F : Nat → Nat → Int32) (u v : Int64) : List Am_C := [.inr (7, [.ref 1, .ref 2, .int (I 2), .ref 3, .ref 4, .ref 5, .ref 6, .ref 7, .int (I 8), .long u, .long v, .int (I 11), .ref 8, .ref 9, .ref 10, .int (I 15), .ref 11]), .inl (0, 2149, .inl (F 1)), .inl (0, 6, .inl (F 2)), .inl (0, 3, .inl (F 3)), .inl (0, 240, .inl (F 4)), .inl (0, 6, .inl (F 5)), .inl (1, 240, .inl (F 6)), .inl (0, 4, .inl (F 7)), .inl (0, 6, .inl (F 8)), .inl (0, 6, .inl (F 9)), .inl (0, 6, .inl (F 10)), .inl (0, 2801, .inl (F 11))]

def in3 (x lo hi : Int32) : Bool := decide (lo ≤ x) && decide (x ≤ hi)

theorem c_M_in (hp : List Am_C) (x lo hi : Int32) : Am_Ev false 0 0 0 134 [.int x, .int lo, .int hi] (hp) (some (.int (b2 (in3 x lo hi)))) (hp) := by
  refine am_ev 3 (some .boolean) false [] ok_M_in am_mP_134 (by rw [am_m_134]) (by rw [am_m_134]) (fun h => by cases h) (Nat.le_of_ble_eq_true rfl) ?_
  intro Go hG
  refine hG 200 _ _ _ _ _ _ ?_
  refine And.intro (fun h1 => ?_) (fun h1 => And.intro (fun h2 => ?_) (fun h2 => ?_))
  · exact ⟨Or.inl rfl, by have : ¬ lo ≤ x := Int32.not_le.mpr h1; simp [in3, b2, this], rfl, rfl, rfl⟩
  · exact ⟨Or.inl rfl, by have : ¬ x ≤ hi := Int32.not_le.mpr h2; simp [in3, b2, this], rfl, rfl, rfl⟩
  · exact ⟨Or.inr rfl, by have a1 : lo ≤ x := Int32.not_lt.mp h1; have a2 : x ≤ hi := Int32.not_lt.mp h2; simp [in3, b2, a1, a2], rfl, rfl, rfl⟩

def hasB (s k : Int32) : Bool := decide ((s >>> (k &&& 31)) &&& nI 1 = nI 1)

theorem c_M_has (hp : List Am_C) (s k : Int32) : Am_Ev false 0 0 0 166 [.int s, .int k] (hp) (some (.int (b2 (hasB s k)))) (hp) := by
  refine am_ev 2 (some .boolean) false [] ok_M_has am_mP_166 (by rw [am_m_166]) (by rw [am_m_166]) (fun h => by cases h) (Nat.le_of_ble_eq_true rfl) ?_
  intro Go hG
  refine hG 200 _ _ _ _ _ _ ?_
  refine And.intro (fun h1 => ?_) (fun h1 => ?_)
  · exact ⟨Or.inl rfl, by simp [hasB, b2, h1], rfl, rfl, rfl⟩
  · exact ⟨Or.inr rfl, by simp [hasB, b2, h1], rfl, rfl, rfl⟩

theorem c_M_tell (I : Nat → Int32) (F : Nat → Nat → Int32) (u v : Int64) (x : Int32) : Am_Ev false 0 0 0 138 [.ref 0, .int x] (mH I F u v) (some (.int (nI 1))) (mH (upd I 8 x) F u v) := by
  refine am_ev 2 (some .int) false [] ok_M_tell am_mP_138 (by rw [am_m_138]) (by rw [am_m_138]) (fun h => by cases h) (Nat.le_of_ble_eq_true rfl) ?_
  intro Go hG
  refine hG 200 _ _ _ _ _ _ ?_
  exact ⟨rfl, rfl, rfl, rfl⟩

theorem c_M_found (I : Nat → Int32) (F : Nat → Nat → Int32) (u v : Int64) (x : Nat) (hx : x < 6) : Am_Ev false 0 0 0 135 [.ref 0, .int (nI x)] (mH I F u v) (some (.int (-nI 3))) (mH (upd I 11 (nI x)) (va_up F 8 (upd (F 8) x (F 8 x + nI 1))) u v) := by
  refine am_ev 2 (some .int) false [] ok_M_found am_mP_135 (by rw [am_m_135]) (by rw [am_m_135]) (fun h => by cases h) (Nat.le_of_ble_eq_true rfl) ?_
  intro Go hG
  refine hG 200 _ _ _ _ _ _ ?_
  refine Exists.intro x ⟨hx, rfl, ?_⟩
  refine Exists.intro x ⟨hx, rfl, ?_⟩
  exact ⟨rfl, rfl, rfl, rfl⟩

theorem c_M_isRow (hp : List Am_C) (x : Int32) : Am_Ev false 1 0 0 133 [.int x] (hp) (some (.int (b2 (in3 x (nI 0) (nI 5))))) (hp) := by
  refine am_ev 1 (some .boolean) false [] ok_M_isRow am_mP_133 (by rw [am_m_133]) (by rw [am_m_133]) (fun h => by cases h) (Nat.le_of_ble_eq_true rfl) ?_
  intro Go hG
  refine hG 200 _ _ _ _ _ _ ?_
  refine Exists.intro 0 (Exists.intro _ (Exists.intro _ ⟨by decide, c_M_in _ _ _ _, ?_⟩))
  exact ⟨b2_or _, rfl, rfl, rfl, rfl⟩

theorem c_M_isText (hp : List Am_C) (x : Int32) : Am_Ev false 1 0 0 145 [.int x] (hp) (some (.int (b2 (in3 x (nI 0) (nI 3))))) (hp) := by
  refine am_ev 1 (some .boolean) false [] ok_M_isText am_mP_145 (by rw [am_m_145]) (by rw [am_m_145]) (fun h => by cases h) (Nat.le_of_ble_eq_true rfl) ?_
  intro Go hG
  refine hG 200 _ _ _ _ _ _ ?_
  refine Exists.intro 0 (Exists.intro _ (Exists.intro _ ⟨by decide, c_M_in _ _ _ _, ?_⟩))
  exact ⟨b2_or _, rfl, rfl, rfl, rfl⟩
end
section
/-! ===== the reference over a row of w ===== -/
def fdI (f : Nat → Int32 → Int32) : Nat → Int32 → Int32
  | 0, a => a
  | n + 1, a => f n (fdI f n a)
def skyG (g : Nat → Int32) (n : Nat) : Int32 := fdI (fun k a => a ||| (nI 1 <<< (g k &&& 31))) n (nI 0)
def sumG (g : Nat → Int32) (n : Nat) : Int32 := fdI (fun k a => a + g k) n (nI 0)
/-- the first place from k on, of j, that holds 0; else the end -/
def dueG (g : Nat → Int32) : Nat → Nat → Nat
  | 0, k => k
  | j + 1, k => if g k = 0 then k else dueG g j (k + 1)
def dueR (n i : Nat) : Int32 := if i < n then nI i else -nI 9
/-- later by a beat -/
def latW (w : Nat → Int32) (x n : Nat) : Nat → Int32 := fun j => if x ≤ j ∧ j < x + n then w j - nI 1 else w j
theorem latW_0 (w : Nat → Int32) (x : Nat) : latW w x 0 = w := by
  funext j
  unfold latW
  rw [if_neg (by omega)]
theorem latW_s (w : Nat → Int32) (x k : Nat) : upd (latW w x k) (x + k) (latW w x k (x + k) - nI 1) = latW w x (k + 1) := by
  funext j
  unfold upd latW
  by_cases h : j = x + k
  · subst h
    simp
  · by_cases h2 : x ≤ j ∧ j < x + k
    · rw [if_neg h, if_pos h2, if_pos (by omega)]
    · rw [if_neg h, if_neg h2, if_neg (by omega)]
theorem va_up_up {α : Type} (f : Nat → α) (k : Nat) (a b : α) : va_up (va_up f k a) k b = va_up f k b := by
  funext j
  unfold va_up
  split <;> rfl
theorem va_up_same {α : Type} (f : Nat → α) (k : Nat) : va_up f k (f k) = f := by
  funext j
  unfold va_up
  split
  · next h => rw [h]
  · rfl
theorem nI_s1 (k : Nat) : nI k + nI 1 = nI (k + 1) := nI_add k 1

theorem c_M_skyAt (I : Nat → Int32) (F : Nat → Nat → Int32) (u v : Int64) (n x : Nat) (hI : I 2 = nI n) (hn : n ≤ 6) (hx : x + 13 ≤ 2149) : Am_Ev false 0 0 0 165 [.ref 0, .int (nI x)] (mH I F u v) (some (.int (skyG (fun i => F 1 (x + i)) n))) (mH I F u v) := by
  refine am_ev 4 (some .int) false [4] ok_M_skyAt am_mP_165 (by rw [am_m_165]) (by rw [am_m_165]) (fun h => by cases h) (Nat.le_of_ble_eq_true rfl) ?_
  intro Go hG
  have L : ∀ (j k : Nat), k + j = n → Go 4 [some (.ref 0), some (.int (nI x)), some (.int (skyG (fun i => F 1 (x + i)) k)), some (.int (nI k))] [] (mH I F u v) 0 0 := by
    intro j
    induction j with
    | zero =>
      intro k hk
      refine hG 200 _ _ _ _ _ _ ?_
      refine br_t (by rw [hI]; exact nI_le (by omega) (by omega)) ?_
      exact ⟨by rw [show k = n by omega], rfl, rfl, rfl⟩
    | succ j ih =>
      intro k hk
      refine hG 200 _ _ _ _ _ _ ?_
      refine br_f (by rw [hI]; exact nI_ge (by omega) (by omega)) ?_
      refine Exists.intro (x + k) ⟨by omega, nI_add x k, ?_⟩
      have h := ih (k + 1) (by omega)
      rw [← nI_s1] at h
      exact h
  refine hG 200 _ _ _ _ _ _ ?_
  exact L n 0 (by omega)

theorem c_M_sumAt (I : Nat → Int32) (F : Nat → Nat → Int32) (u v : Int64) (n x : Nat) (hI : I 2 = nI n) (hn : n ≤ 6) (hx : x + 13 ≤ 2149) : Am_Ev false 0 0 0 202 [.ref 0, .int (nI x)] (mH I F u v) (some (.int (sumG (fun i => F 1 (x + i)) n))) (mH I F u v) := by
  refine am_ev 4 (some .int) false [4] ok_M_sumAt am_mP_202 (by rw [am_m_202]) (by rw [am_m_202]) (fun h => by cases h) (Nat.le_of_ble_eq_true rfl) ?_
  intro Go hG
  have L : ∀ (j k : Nat), k + j = n → Go 4 [some (.ref 0), some (.int (nI x)), some (.int (sumG (fun i => F 1 (x + i)) k)), some (.int (nI k))] [] (mH I F u v) 0 0 := by
    intro j
    induction j with
    | zero =>
      intro k hk
      refine hG 200 _ _ _ _ _ _ ?_
      refine br_t (by rw [hI]; exact nI_le (by omega) (by omega)) ?_
      exact ⟨by rw [show k = n by omega], rfl, rfl, rfl⟩
    | succ j ih =>
      intro k hk
      refine hG 200 _ _ _ _ _ _ ?_
      refine br_f (by rw [hI]; exact nI_ge (by omega) (by omega)) ?_
      refine Exists.intro (x + k) ⟨by omega, nI_add x k, ?_⟩
      have h := ih (k + 1) (by omega)
      rw [← nI_s1] at h
      exact h
  refine hG 200 _ _ _ _ _ _ ?_
  exact L n 0 (by omega)

theorem c_M_dueAt (I : Nat → Int32) (F : Nat → Nat → Int32) (u v : Int64) (n x : Nat) (hI : I 2 = nI n) (hn : n ≤ 6) (hx : x + 13 ≤ 2149) : Am_Ev false 0 0 0 164 [.ref 0, .int (nI x)] (mH I F u v) (some (.int (dueR n (dueG (fun i => F 1 (x + i)) n 0)))) (mH I F u v) := by
  refine am_ev 3 (some .int) false [2] ok_M_dueAt am_mP_164 (by rw [am_m_164]) (by rw [am_m_164]) (fun h => by cases h) (Nat.le_of_ble_eq_true rfl) ?_
  intro Go hG
  have L : ∀ (j k : Nat), k + j = n → dueG (fun i => F 1 (x + i)) j k = dueG (fun i => F 1 (x + i)) n 0 → Go 2 [some (.ref 0), some (.int (nI x)), some (.int (nI k))] [] (mH I F u v) 0 0 := by
    intro j
    induction j with
    | zero =>
      intro k hk he
      refine hG 200 _ _ _ _ _ _ ?_
      refine br_t (by rw [hI]; exact nI_le (by omega) (by omega)) ?_
      rw [← he]
      refine ⟨?_, rfl, rfl, rfl⟩
      show some (Value.int (-nI 9)) = some (.int (dueR n k))
      rw [dueR, if_neg (by omega)]
    | succ j ih =>
      intro k hk he
      refine hG 200 _ _ _ _ _ _ ?_
      refine br_f (by rw [hI]; exact nI_ge (by omega) (by omega)) ?_
      refine Exists.intro (x + k) ⟨by omega, nI_add x k, ?_⟩
      rw [← he]
      refine And.intro (fun h1 => ?_) (fun h1 => ?_)
      · have h := ih (k + 1) (by omega) (by rw [← he]; simp only [dueG]; rw [if_neg h1])
        rw [← nI_s1] at h
        exact h
      · refine ⟨?_, rfl, rfl, rfl⟩
        have h1' : F 1 (x + k) = 0 := h1
        simp only [dueG]
        rw [if_pos h1', dueR, if_pos (by omega)]
  refine hG 200 _ _ _ _ _ _ ?_
  exact L n 0 (by omega) rfl

def latF (w : Nat → Int32) (x n : Nat) : Nat → Int32 := upd (latW w x n) (x + 12) (latW w x n (x + 12) + nI 1)

theorem c_M_later (I : Nat → Int32) (F : Nat → Nat → Int32) (u v : Int64) (n x : Nat) (hI : I 2 = nI n) (hn : n ≤ 6) (hx : x + 13 ≤ 2149) : Am_Ev false 0 0 0 170 [.ref 0, .int (nI x)] (mH I F u v) (none) (mH I (va_up F 1 (latF (F 1) x n)) u v) := by
  refine am_ev 3 none false [2] ok_M_later am_mP_170 (by rw [am_m_170]) (by rw [am_m_170]) (fun h => by cases h) (Nat.le_of_ble_eq_true rfl) ?_
  intro Go hG
  have L : ∀ (j k : Nat), k + j = n → Go 2 [some (.ref 0), some (.int (nI x)), some (.int (nI k))] [] (mH I (va_up F 1 (latW (F 1) x k)) u v) 0 0 := by
    intro j
    induction j with
    | zero =>
      intro k hk
      refine hG 200 _ _ _ _ _ _ ?_
      refine br_t (by rw [hI]; exact nI_le (by omega) (by omega)) ?_
      refine Exists.intro (x + 12) ⟨by omega, nI_add x 12, ?_⟩
      refine Exists.intro (x + 12) ⟨by omega, nI_add x 12, ?_⟩
      have hk : k = n := by omega
      subst hk
      exact ⟨rfl, rfl, rfl, rfl⟩
    | succ j ih =>
      intro k hk
      refine hG 200 _ _ _ _ _ _ ?_
      refine br_f (by rw [hI]; exact nI_ge (by omega) (by omega)) ?_
      refine Exists.intro (x + k) ⟨by omega, nI_add x k, ?_⟩
      refine Exists.intro (x + k) ⟨by omega, nI_add x k, ?_⟩
      have h := ih (k + 1) (by omega)
      rw [← nI_s1, ← latW_s] at h
      exact h
  refine hG 200 _ _ _ _ _ _ ?_
  have h := L n 0 (by omega)
  rw [latW_0, va_up_same] at h
  exact h

theorem c_M_copyRow (I : Nat → Int32) (F : Nat → Nat → Int32) (u v : Int64) (x y n : Nat) (hx : x + n ≤ 2149) (hy : y + n ≤ 2149) (hd : x + n ≤ y ∨ y + n ≤ x) : Am_Ev false 0 0 0 168 [.ref 0, .int (nI x), .int (nI y), .int (nI n)] (mH I F u v) (none) (mH I (va_up F 1 (va_cpy (F 1) (F 1) x y n)) u v) := by
  refine am_ev 5 none false [3] ok_M_copyRow am_mP_168 (by rw [am_m_168]) (by rw [am_m_168]) (fun h => by cases h) (Nat.le_of_ble_eq_true rfl) ?_
  intro Go hG
  have e : ∀ k, k < n → upd (va_cpy (F 1) (F 1) x y k) (y + k) (va_cpy (F 1) (F 1) x y k (x + k)) = va_cpy (F 1) (F 1) x y (k + 1) := by
    intro k hk
    funext j
    unfold upd va_cpy
    by_cases h : j = y + k
    · subst h
      rw [if_pos rfl, if_neg (by omega), if_pos (by omega)]
      congr 1
      omega
    · by_cases h2 : y ≤ j ∧ j < y + k
      · rw [if_neg h, if_pos h2, if_pos (by omega)]
      · rw [if_neg h, if_neg h2, if_neg (by omega)]
  have L : ∀ (j k : Nat), k + j = n → Go 3 [some (.ref 0), some (.int (nI x)), some (.int (nI y)), some (.int (nI n)), some (.int (nI k))] [] (mH I (va_up F 1 (va_cpy (F 1) (F 1) x y k)) u v) 0 0 := by
    intro j
    induction j with
    | zero =>
      intro k hk
      refine hG 200 _ _ _ _ _ _ ?_
      refine br_t (nI_le (by omega) (by omega)) ?_
      have hk : k = n := by omega
      subst hk
      exact ⟨rfl, rfl, rfl, rfl⟩
    | succ j ih =>
      intro k hk
      refine hG 200 _ _ _ _ _ _ ?_
      refine br_f (nI_ge (by omega) (by omega)) ?_
      refine Exists.intro (x + k) ⟨by omega, nI_add x k, ?_⟩
      refine Exists.intro (y + k) ⟨by omega, nI_add y k, ?_⟩
      have h := ih (k + 1) (by omega)
      rw [← nI_s1, ← e k (by omega)] at h
      exact h
  refine hG 200 _ _ _ _ _ _ ?_
  have h := L n 0 (by omega)
  have e0 : va_cpy (F 1) (F 1) x y 0 = F 1 := by
    funext j
    unfold va_cpy
    rw [if_neg (by omega)]
  rw [e0, va_up_same] at h
  exact h

theorem c_M_beginTry (I : Nat → Int32) (F : Nat → Nat → Int32) (u v : Int64) : Am_Ev false 1 0 0 182 [.ref 0] (mH I F u v) (none) (mH I (va_up F 1 (va_cpy (F 1) (F 1) 0 2136 13)) u v) := by
  refine am_ev 1 none false [] ok_M_beginTry am_mP_182 (by rw [am_m_182]) (by rw [am_m_182]) (fun h => by cases h) (Nat.le_of_ble_eq_true rfl) ?_
  intro Go hG
  refine hG 200 _ _ _ _ _ _ ?_
  refine Exists.intro 0 (Exists.intro _ (Exists.intro _ ⟨by decide, c_M_copyRow I F u v 0 2136 13 (by omega) (by omega) (by omega), ?_⟩))
  exact ⟨rfl, rfl, rfl, rfl⟩

theorem c_M_isThing (I : Nat → Int32) (F : Nat → Nat → Int32) (u v : Int64) (x : Int32) : Am_Ev false 1 0 0 154 [.ref 0, .int x] (mH I F u v) (some (.int (b2 (in3 x (nI 0) (I 2 - nI 1))))) (mH I F u v) := by
  refine am_ev 2 (some .boolean) false [] ok_M_isThing am_mP_154 (by rw [am_m_154]) (by rw [am_m_154]) (fun h => by cases h) (Nat.le_of_ble_eq_true rfl) ?_
  intro Go hG
  refine hG 200 _ _ _ _ _ _ ?_
  refine Exists.intro 0 (Exists.intro _ (Exists.intro _ ⟨by decide, c_M_in _ _ _ _, ?_⟩))
  exact ⟨b2_or _, rfl, rfl, rfl, rfl⟩

theorem c_M_isHeight (hp : List Am_C) (x : Int32) : Am_Ev false 1 0 0 162 [.int x] (hp) (some (.int (b2 (in3 x (nI 1) (nI 7))))) (hp) := by
  refine am_ev 1 (some .boolean) false [] ok_M_isHeight am_mP_162 (by rw [am_m_162]) (by rw [am_m_162]) (fun h => by cases h) (Nat.le_of_ble_eq_true rfl) ?_
  intro Go hG
  refine hG 200 _ _ _ _ _ _ ?_
  refine Exists.intro 0 (Exists.intro _ (Exists.intro _ ⟨by decide, c_M_in _ _ _ _, ?_⟩))
  exact ⟨b2_or _, rfl, rfl, rfl, rfl⟩

theorem c_M_isSky (hp : List Am_C) (x : Int32) : Am_Ev false 1 0 0 187 [.int x] (hp) (some (.int (b2 (in3 x (nI 0) (nI 65535))))) (hp) := by
  refine am_ev 1 (some .boolean) false [] ok_M_isSky am_mP_187 (by rw [am_m_187]) (by rw [am_m_187]) (fun h => by cases h) (Nat.le_of_ble_eq_true rfl) ?_
  intro Go hG
  refine hG 200 _ _ _ _ _ _ ?_
  refine Exists.intro 0 (Exists.intro _ (Exists.intro _ ⟨by decide, c_M_in _ _ _ _, ?_⟩))
  exact ⟨b2_or _, rfl, rfl, rfl, rfl⟩
end
section
theorem c_M_asked (I : Nat → Int32) (F : Nat → Nat → Int32) (u v : Int64) : Am_Ev false 0 0 0 213 [.ref 0] (mH I F u v) (some (.int (I 8))) (mH I F u v) := by
  refine am_ev 1 (some .int) false [] ok_M_asked am_mP_213 (by rw [am_m_213]) (by rw [am_m_213]) (fun h => by cases h) (Nat.le_of_ble_eq_true rfl) ?_
  intro Go hG
  refine hG 200 _ _ _ _ _ _ ?_
  exact ⟨rfl, rfl, rfl, rfl⟩

theorem c_M_finding (I : Nat → Int32) (F : Nat → Nat → Int32) (u v : Int64) : Am_Ev false 0 0 0 220 [.ref 0] (mH I F u v) (some (.int (I 11))) (mH I F u v) := by
  refine am_ev 1 (some .int) false [] ok_M_finding am_mP_220 (by rw [am_m_220]) (by rw [am_m_220]) (fun h => by cases h) (Nat.le_of_ble_eq_true rfl) ?_
  intro Go hG
  refine hG 200 _ _ _ _ _ _ ?_
  exact ⟨rfl, rfl, rfl, rfl⟩

theorem c_M_upper (I : Nat → Int32) (F : Nat → Nat → Int32) (u v : Int64) : Am_Ev false 0 0 0 214 [.ref 0] (mH I F u v) (some (.long (u))) (mH I F u v) := by
  refine am_ev 1 (some .long) false [] ok_M_upper am_mP_214 (by rw [am_m_214]) (by rw [am_m_214]) (fun h => by cases h) (Nat.le_of_ble_eq_true rfl) ?_
  intro Go hG
  refine hG 200 _ _ _ _ _ _ ?_
  exact ⟨rfl, rfl, rfl, rfl⟩

theorem c_M_lower (I : Nat → Int32) (F : Nat → Nat → Int32) (u v : Int64) : Am_Ev false 0 0 0 215 [.ref 0] (mH I F u v) (some (.long (v))) (mH I F u v) := by
  refine am_ev 1 (some .long) false [] ok_M_lower am_mP_215 (by rw [am_m_215]) (by rw [am_m_215]) (fun h => by cases h) (Nat.le_of_ble_eq_true rfl) ?_
  intro Go hG
  refine hG 200 _ _ _ _ _ _ ?_
  exact ⟨rfl, rfl, rfl, rfl⟩

def rem2 (h : Int32) : Int32 := h - h / nI 2 * nI 2
def landI (k h : Int32) : Int32 := if k.toInt = 0 then h else if k.toInt = 1 then h + rem2 h else if k.toInt = 2 then nI 2 * h else if k.toInt = 3 then (if h ≤ nI 1 then nI 1 else h - nI 1) else if k.toInt = 4 then (if nI 3 ≤ h then h + rem2 h else -nI 9) else (if h ≤ nI 4 then (if h ≤ nI 1 then nI 1 else h - nI 1) else -nI 9)

theorem c_M_landing (hp : List Am_C) (k h : Int32) : Am_Ev false 0 0 0 156 [.int k, .int h] (hp) (some (.int (landI k h))) (hp) := by
  refine am_ev 2 (some .int) false [] ok_M_landing am_mP_156 (by rw [am_m_156]) (by rw [am_m_156]) (fun h => by cases h) (Nat.le_of_ble_eq_true rfl) ?_
  intro Go hG
  refine hG 200 _ _ _ _ _ _ ?_
  refine And.intro (fun h0 => ?_) (And.intro (fun h0 => ?_) (And.intro (fun h0 => ?_) (And.intro (fun h0 => ?_) (And.intro (fun h0 => ?_) (And.intro (fun h0 => ?_) trivial)))))
  · have e : landI k h = (if h ≤ nI 4 then (if h ≤ nI 1 then nI 1 else h - nI 1) else -nI 9) := by
      unfold landI
      rw [if_neg (by omega), if_neg (by omega), if_neg (by omega), if_neg (by omega), if_neg (by omega)]
    rw [e]
    refine And.intro (fun h1 => And.intro (fun h2 => ?_) (fun h2 => ?_)) (fun h1 => ?_)
    · exact ⟨by rw [if_pos h1, if_pos h2], rfl, rfl, rfl⟩
    · exact ⟨by rw [if_pos h1, if_neg h2], rfl, rfl, rfl⟩
    · exact ⟨by rw [if_neg h1], rfl, rfl, rfl⟩
  · exact ⟨by unfold landI; rw [if_pos h0], rfl, rfl, rfl⟩
  · refine And.intro (by decide) ?_
    exact ⟨by unfold landI; rw [if_neg (by omega), if_pos (by omega)]; rfl, rfl, rfl, rfl⟩
  · exact ⟨by unfold landI; rw [if_neg (by omega), if_neg (by omega), if_pos (by omega)], rfl, rfl, rfl⟩
  · have e : landI k h = (if h ≤ nI 1 then nI 1 else h - nI 1) := by
      unfold landI
      rw [if_neg (by omega), if_neg (by omega), if_neg (by omega), if_pos (by omega)]
    rw [e]
    refine And.intro (fun h1 => ?_) (fun h1 => ?_)
    · exact ⟨by rw [if_pos h1], rfl, rfl, rfl⟩
    · exact ⟨by rw [if_neg h1], rfl, rfl, rfl⟩
  · have e : landI k h = (if nI 3 ≤ h then h + rem2 h else -nI 9) := by
      unfold landI
      rw [if_neg (by omega), if_neg (by omega), if_neg (by omega), if_neg (by omega), if_pos (by omega)]
    rw [e]
    refine And.intro (fun h1 => And.intro (by decide) ?_) (fun h1 => ?_)
    · exact ⟨by rw [if_pos h1]; rfl, rfl, rfl, rfl⟩
    · exact ⟨by rw [if_neg h1], rfl, rfl, rfl⟩

def hgtG (p : Int32 → Bool) (n : Nat) : Int32 := fdI (fun i a => a ||| (if p (nI (i + 1)) then nI 1 <<< (nI (i + 1) &&& 31) else nI 0)) n (nI 0)
theorem hgtG_t {p : Int32 → Bool} {k : Nat} (h : p (nI (k + 1)) = true) : hgtG p (k + 1) = hgtG p k ||| (nI 1 <<< (nI (k + 1) &&& 31)) := by
  show _ ||| (if _ then _ else _) = _
  rw [if_pos h]
  rfl
theorem hgtG_f {p : Int32 → Bool} {k : Nat} (h : p (nI (k + 1)) = false) : hgtG p (k + 1) = hgtG p k ||| nI 0 := by
  show _ ||| (if _ then _ else _) = _
  rw [if_neg (by rw [h]; decide)]
  rfl
def canI (k h : Int32) : Bool := decide (¬ landI k h = -nI 9)

theorem c_M_heightsOf (hp : List Am_C) (q : Int32) : Am_Ev false 1 0 0 155 [.int q] (hp) (some (.int (hgtG (canI q) 7))) (hp) := by
  refine am_ev 3 (some .int) false [4] ok_M_heightsOf am_mP_155 (by rw [am_m_155]) (by rw [am_m_155]) (fun h => by cases h) (Nat.le_of_ble_eq_true rfl) ?_
  intro Go hG
  have L : ∀ (j k : Nat), k + j = 7 → Go 4 [some (.int q), some (.int (hgtG (canI q) k)), some (.int (nI (k + 1)))] [] hp 0 0 := by
    intro j
    induction j with
    | zero =>
      intro k hk
      refine hG 200 _ _ _ _ _ _ ?_
      refine br_t (nI_lt (by omega) (by omega)) ?_
      exact ⟨by rw [show k = 7 by omega], rfl, rfl, rfl⟩
    | succ j ih =>
      intro k hk
      refine hG 200 _ _ _ _ _ _ ?_
      refine br_f (nI_nlt (by omega) (by omega)) ?_
      refine Exists.intro 0 (Exists.intro _ (Exists.intro _ ⟨by decide, c_M_landing _ _ _, ?_⟩))
      have h := ih (k + 1) (by omega)
      rw [← nI_s1 (k + 1)] at h
      refine And.intro (fun h1 => ?_) (fun h1 => ?_)
      · rw [hgtG_f (by unfold canI; exact decide_eq_false (fun z => z h1))] at h
        exact h
      · rw [hgtG_t (by unfold canI; exact decide_eq_true h1)] at h
        exact h
  refine hG 200 _ _ _ _ _ _ ?_
  exact L 7 0 (by omega)

def mayG (g kf : Nat → Int32) (n : Nat) (h : Int32) : Bool := decide (dueG g n 0 < n) && (decide (¬ landI (kf (dueG g n 0)) h = -nI 9) && !hasB (skyG g n) (landI (kf (dueG g n 0)) h))
theorem dueR_no {n i : Nat} (h : ¬ i < n) : dueR n i = -nI 9 := by unfold dueR; rw [if_neg h]
theorem dueR_yes {n i : Nat} (h : i < n) : dueR n i = nI i := by unfold dueR; rw [if_pos h]
theorem nI_m9 {i : Nat} (h : i < 100) : ¬ nI i = -nI 9 := by
  intro q
  have h1 := congrArg Int32.toInt q
  rw [nI_toInt (by omega)] at h1
  have h2 : (-nI 9 : Int32).toInt = -9 := by decide
  omega

theorem c_M_mayAt (I : Nat → Int32) (F : Nat → Nat → Int32) (u v : Int64) (n x : Nat) (h : Int32) (hI : I 2 = nI n) (hn : n ≤ 6) (hx : x + 13 ≤ 2149) : Am_Ev false 1 0 0 163 [.ref 0, .int (nI x), .int h] (mH I F u v) (some (.int (b2 (mayG (fun i => F 1 (x + i)) (F 2) n h)))) (mH I F u v) := by
  refine am_ev 5 (some .boolean) false [] ok_M_mayAt am_mP_163 (by rw [am_m_163]) (by rw [am_m_163]) (fun h => by cases h) (Nat.le_of_ble_eq_true rfl) ?_
  intro Go hG
  obtain ⟨r, hr0⟩ : ∃ r, mayG (fun i => F 1 (x + i)) (F 2) n h = r := ⟨_, rfl⟩
  obtain ⟨i, hd⟩ : ∃ i, dueG (fun i => F 1 (x + i)) n 0 = i := ⟨_, rfl⟩
  have hr := hr0
  unfold mayG at hr
  rw [hd] at hr
  refine hG 200 _ _ _ _ _ _ ?_
  refine Exists.intro 0 (Exists.intro _ (Exists.intro _ ⟨by decide, c_M_dueAt I F u v n x hI hn hx, ?_⟩))
  rw [hd]
  by_cases hi : i < n
  · rw [dueR_yes hi]
    rw [decide_eq_true hi, Bool.true_and] at hr
    refine bn_t (nI_m9 (by omega)) ?_
    refine Exists.intro i ⟨by omega, rfl, ?_⟩
    refine Exists.intro 0 (Exists.intro _ (Exists.intro _ ⟨by decide, c_M_landing _ _ _, ?_⟩))
    refine And.intro (fun h1 => ?_) (fun h1 => ?_)
    · refine ⟨Or.inl rfl, ?_, rfl, rfl, rfl⟩
      rw [decide_eq_false (fun z => z h1), Bool.false_and] at hr
      rw [hr0, ← hr]
      rfl
    · rw [decide_eq_true h1, Bool.true_and] at hr
      refine Exists.intro 0 (Exists.intro _ (Exists.intro _ ⟨by decide, c_M_skyAt I F u v n x hI hn hx, ?_⟩))
      refine Exists.intro 0 (Exists.intro _ (Exists.intro _ ⟨by decide, c_M_has _ _ _, ?_⟩))
      refine b2_nz (fun h2 => ?_) (fun h2 => ?_)
      · refine ⟨Or.inl rfl, ?_, rfl, rfl, rfl⟩
        rw [h2] at hr
        rw [hr0, ← hr]
        rfl
      · refine ⟨Or.inr rfl, ?_, rfl, rfl, rfl⟩
        rw [h2] at hr
        rw [hr0, ← hr]
        rfl
  · rw [dueR_no hi]
    rw [decide_eq_false hi, Bool.false_and] at hr
    refine bn_f rfl ?_
    refine br_t rfl ?_
    refine ⟨Or.inl rfl, ?_, rfl, rfl, rfl⟩
    rw [hr0, ← hr]
    rfl

theorem c_M_heightsAt (I : Nat → Int32) (F : Nat → Nat → Int32) (u v : Int64) (n x : Nat) (hI : I 2 = nI n) (hn : n ≤ 6) (hx : x + 13 ≤ 2149) : Am_Ev false 2 0 0 179 [.ref 0, .int (nI x)] (mH I F u v) (some (.int (hgtG (mayG (fun i => F 1 (x + i)) (F 2) n) 7))) (mH I F u v) := by
  refine am_ev 4 (some .int) false [4] ok_M_heightsAt am_mP_179 (by rw [am_m_179]) (by rw [am_m_179]) (fun h => by cases h) (Nat.le_of_ble_eq_true rfl) ?_
  intro Go hG
  have L : ∀ (j k : Nat), k + j = 7 → Go 4 [some (.ref 0), some (.int (nI x)), some (.int (hgtG (mayG (fun i => F 1 (x + i)) (F 2) n) k)), some (.int (nI (k + 1)))] [] (mH I F u v) 0 0 := by
    intro j
    induction j with
    | zero =>
      intro k hk
      refine hG 200 _ _ _ _ _ _ ?_
      refine br_t (nI_lt (by omega) (by omega)) ?_
      exact ⟨by rw [show k = 7 by omega], rfl, rfl, rfl⟩
    | succ j ih =>
      intro k hk
      refine hG 200 _ _ _ _ _ _ ?_
      refine br_f (nI_nlt (by omega) (by omega)) ?_
      refine Exists.intro 1 (Exists.intro _ (Exists.intro _ ⟨by decide, c_M_mayAt I F u v n x _ hI hn hx, ?_⟩))
      have h := ih (k + 1) (by omega)
      rw [← nI_s1 (k + 1)] at h
      refine b2_z (fun h1 => ?_) (fun h1 => ?_)
      · rw [hgtG_f h1] at h
        exact h
      · rw [hgtG_t h1] at h
        exact h
  refine hG 200 _ _ _ _ _ _ ?_
  exact L 7 0 (by omega)

def tosW (w kf : Nat → Int32) (x n i : Nat) (h : Int32) : Nat → Int32 := latF (upd (upd w (x + i) (landI (kf i) h)) (x + 6 + i) (w (x + 6 + i) + nI 1)) x n

theorem c_M_tossAt (I : Nat → Int32) (F : Nat → Nat → Int32) (u v : Int64) (n x i : Nat) (h : Int32) (hI : I 2 = nI n) (hn : n ≤ 6) (hx : x + 13 ≤ 2149) (hd : dueG (fun i => F 1 (x + i)) n 0 = i) (hi : i < n) : Am_Ev false 1 0 0 169 [.ref 0, .int (nI x), .int h] (mH I F u v) (none) (mH I (va_up F 1 (tosW (F 1) (F 2) x n i h)) u v) := by
  refine am_ev 4 none false [] ok_M_tossAt am_mP_169 (by rw [am_m_169]) (by rw [am_m_169]) (fun h => by cases h) (Nat.le_of_ble_eq_true rfl) ?_
  intro Go hG
  refine hG 200 _ _ _ _ _ _ ?_
  refine Exists.intro 0 (Exists.intro _ (Exists.intro _ ⟨by decide, c_M_dueAt I F u v n x hI hn hx, ?_⟩))
  rw [hd, dueR_yes hi]
  refine Exists.intro i ⟨by omega, rfl, ?_⟩
  refine Exists.intro 0 (Exists.intro _ (Exists.intro _ ⟨by decide, c_M_landing _ _ _, ?_⟩))
  refine Exists.intro (x + i) ⟨by omega, nI_add x i, ?_⟩
  refine Exists.intro (x + 6 + i) ⟨by omega, by rw [nI_add, nI_add], ?_⟩
  refine Exists.intro (x + 6 + i) ⟨by omega, by rw [nI_add, nI_add], ?_⟩
  have e : upd (upd (F 1) (x + i) (landI (F 2 i) h)) (x + 6 + i) (upd (F 1) (x + i) (landI (F 2 i) h) (x + 6 + i) + nI 1) = upd (upd (F 1) (x + i) (landI (F 2 i) h)) (x + 6 + i) (F 1 (x + 6 + i) + nI 1) := by
    rw [pk_un (by omega)]
  refine Exists.intro 0 (Exists.intro _ (Exists.intro _ ⟨by decide, c_M_later I (va_up F 1 (upd (upd (F 1) (x + i) (landI (F 2 i) h)) (x + 6 + i) (upd (F 1) (x + i) (landI (F 2 i) h) (x + 6 + i) + nI 1))) u v n x hI hn hx, ?_⟩))
  refine ⟨rfl, ?_, rfl, rfl⟩
  rw [va_up_up]
  show mH I (va_up F 1 (latF (upd (upd (F 1) (x + i) (landI (F 2 i) h)) (x + 6 + i) (upd (F 1) (x + i) (landI (F 2 i) h) (x + 6 + i) + nI 1)) x n)) u v = _
  rw [e]
  rfl

def latI : Nat → (Nat → Int32) → Nat → Nat → Nat → Int32
  | 0, w, _, _ => w
  | r + 1, w, x, n => latI r (latF w x n) x n

theorem c_M_restsAt : ∀ (r : Nat) (I : Nat → Int32) (F : Nat → Nat → Int32) (u v : Int64) (n x : Nat) (hI : I 2 = nI n) (hn : n ≤ 6) (hx : x + 13 ≤ 2149) (h1 : ∀ q, q < r → ¬ dueG (fun i => latI q (F 1) x n (x + i)) n 0 < n) (h2 : dueG (fun i => latI r (F 1) x n (x + i)) n 0 < n), Am_Ev false 1 0 0 183 [.ref 0, .int (nI x)] (mH I F u v) none (mH I (va_up F 1 (latI r (F 1) x n)) u v) := by
  intro r I F u v n x hI hn hx h1 h2
  refine am_ev 2 none false [0] ok_M_restsAt am_mP_183 (by rw [am_m_183]) (by rw [am_m_183]) (fun h => by cases h) (Nat.le_of_ble_eq_true rfl) ?_
  intro Go hG
  have L : ∀ (j : Nat) (F' : Nat → Nat → Int32), (∀ q, q < j → ¬ dueG (fun i => latI q (F' 1) x n (x + i)) n 0 < n) → dueG (fun i => latI j (F' 1) x n (x + i)) n 0 < n → mH I (va_up F' 1 (latI j (F' 1) x n)) u v = mH I (va_up F 1 (latI r (F 1) x n)) u v → Go 0 [some (.ref 0), some (.int (nI x))] [] (mH I F' u v) 0 0 := by
    intro j
    induction j with
    | zero =>
      intro F' g1 g2 g3
      refine hG 200 _ _ _ _ _ _ ?_
      refine Exists.intro 0 (Exists.intro _ (Exists.intro _ ⟨by decide, c_M_dueAt I F' u v n x hI hn hx, ?_⟩))
      have g2' : dueG (fun i => F' 1 (x + i)) n 0 < n := g2
      rw [dueR_yes g2']
      refine bn_t (nI_m9 (by omega)) ?_
      rw [← g3]
      refine ⟨rfl, ?_, rfl, rfl⟩
      show _ = mH I (va_up F' 1 (F' 1)) u v
      rw [va_up_same]
    | succ j ih =>
      intro F' g1 g2 g3
      refine hG 200 _ _ _ _ _ _ ?_
      refine Exists.intro 0 (Exists.intro _ (Exists.intro _ ⟨by decide, c_M_dueAt I F' u v n x hI hn hx, ?_⟩))
      have g0 : ¬ dueG (fun i => F' 1 (x + i)) n 0 < n := g1 0 (by omega)
      rw [dueR_no g0]
      refine bn_f rfl ?_
      refine Exists.intro 0 (Exists.intro _ (Exists.intro _ ⟨by decide, c_M_later I F' u v n x hI hn hx, ?_⟩))
      refine ih (va_up F' 1 (latF (F' 1) x n)) (fun q hq => g1 (q + 1) (by omega)) g2 ?_
      rw [← g3, va_up_up]
      rfl
  exact L r F h1 h2 rfl

theorem c_M_swap (I : Nat → Int32) (F : Nat → Nat → Int32) (u v : Int64) (i j : Nat) (hi : i < 2149) (hj : j < 2149) : Am_Ev false 0 0 0 173 [.ref 0, .int (nI i), .int (nI j)] (mH I F u v) (none) (mH I (va_up F 1 (upd (upd (F 1) i (F 1 j)) j (F 1 i))) u v) := by
  refine am_ev 4 none false [] ok_M_swap am_mP_173 (by rw [am_m_173]) (by rw [am_m_173]) (fun h => by cases h) (Nat.le_of_ble_eq_true rfl) ?_
  intro Go hG
  refine hG 200 _ _ _ _ _ _ ?_
  refine Exists.intro i ⟨hi, rfl, ?_⟩
  refine Exists.intro j ⟨hj, rfl, ?_⟩
  refine Exists.intro i ⟨hi, rfl, ?_⟩
  refine Exists.intro j ⟨hj, rfl, ?_⟩
  exact ⟨rfl, rfl, rfl, rfl⟩

def remW (w : Nat → Int32) (m : Nat) : Nat → Int32 := upd (va_cpy w w 0 (13 + 13 * m) 13) 533 (va_cpy w w 0 (13 + 13 * m) 13 533 + nI 1)

theorem c_M_remember (I : Nat → Int32) (F : Nat → Nat → Int32) (u v : Int64) (m : Nat) (hm : F 1 533 = nI m) (hm2 : m < 40) : Am_Ev false 1 0 0 167 [.ref 0] (mH I F u v) (none) (mH I (va_up F 1 (remW (F 1) m)) u v) := by
  refine am_ev 1 none false [] ok_M_remember am_mP_167 (by rw [am_m_167]) (by rw [am_m_167]) (fun h => by cases h) (Nat.le_of_ble_eq_true rfl) ?_
  intro Go hG
  refine hG 200 _ _ _ _ _ _ ?_
  refine Exists.intro 533 ⟨by omega, rfl, ?_⟩
  have e : nI 13 + nI 13 * F 1 533 = nI (13 + 13 * m) := by rw [hm, pk_mul, nI_add]
  have hc := c_M_copyRow I F u v 0 (13 + 13 * m) 13 (by omega) (by omega) (by omega)
  rw [← e] at hc
  refine Exists.intro 0 (Exists.intro _ (Exists.intro _ ⟨by decide, hc, ?_⟩))
  refine Exists.intro 533 ⟨by omega, rfl, ?_⟩
  refine Exists.intro 533 ⟨by omega, rfl, ?_⟩
  exact ⟨rfl, rfl, rfl, rfl⟩
end
section
/-! ===== the class: kinds, troupes ===== -/
theorem am_ob_of {hp : List Am_C} {h ci : Nat} {fs : List Value} {q : Nat → List Value → Prop} (e : hp[h]? = some (.inr (ci, fs))) (k : q ci fs) : am_ob hp h q := by
  unfold am_ob
  rw [e]
  exact k
theorem am_ai_of {hp : List Am_C} {h n : Nat} {f : Nat → Int32} {q : Nat → (Nat → Int32) → Prop} (e : hp[h]? = some (.inl (0, n, .inl f))) (hn : Nat.ble n 4096 = true) (k : q n f) : am_ai hp h q := by
  unfold am_ai
  rw [e]
  show (bif Nat.ble n 4096 then q n f else False)
  rw [hn]
  exact k
theorem am_set_at {hp : List Am_C} {h : Nat} {a c : Am_C} (e : hp[h]? = some a) : (hp.set h c)[h]? = some c := by
  rw [List.getElem?_set_self (List.getElem?_eq_some_iff.mp e).1]
theorem am_set_ne {hp : List Am_C} {h k : Nat} {a c : Am_C} (hk : h ≠ k) (e : hp[k]? = some a) : (hp.set h c)[k]? = some a := by
  rw [List.getElem?_set_ne hk]
  exact e
theorem am_rcv_of {hp : List Am_C} {h ci : Nat} {fs : List Value} (e : hp[h]? = some (.inr (ci, fs))) : am_rcv ci (some (.ref h)) hp = true := by
  unfold am_rcv
  dsimp only
  rw [e]
  exact Nat.beq_refl ci
theorem am_vt {hp : List Am_C} {h ci x : Nat} {fs : List Value} {q : Prop} (e : hp[h]? = some (.inr (ci, fs))) (hs : Nat.ble x 8 = true) (k : q) : am_t (am_rcv ci (some (.ref h)) hp && Nat.ble x 8) q := by
  unfold am_t
  rw [am_rcv_of e, hs]
  exact k
theorem lt6 {k : Nat} (h : k < 6) : k = 0 ∨ k = 1 ∨ k = 2 ∨ k = 3 ∨ k = 4 ∨ k = 5 := by omega
theorem in17 {k : Nat} (h : 1 ≤ k ∧ k ≤ 7) : k = 1 ∨ k = 2 ∨ k = 3 ∨ k = 4 ∨ k = 5 ∨ k = 6 ∨ k = 7 := by omega
theorem or0 (x : Int32) : x ||| nI 0 = x := by
  have h : nI 0 = 0 := rfl
  rw [h]
  simp
def abv (k : Nat) : Nat := match k with
  | 4 => 1
  | 5 => 3
  | _ => 0
def isOfB (k q : Nat) : Bool := Nat.beq k q || (Nat.beq (abv k) q || Nat.beq q 0)

theorem c_K_isOf (hp : List Am_C) (k q : Nat) (hk : k < 6) (hq : q < 6) : Am_Ev false 0 0 0 44 [.int (nI k), .int (nI q)] (hp) (some (.int (b2 (isOfB k q)))) (hp) := by
  refine am_ev 2 (some .boolean) false [] ok_K_isOf am_mP_44 (by rw [am_m_44]) (by rw [am_m_44]) (fun h => by cases h) (Nat.le_of_ble_eq_true rfl) ?_
  intro Go hG
  refine hG 200 _ _ _ _ _ _ ?_
  rcases lt6 hk with rfl | rfl | rfl | rfl | rfl | rfl <;> rcases lt6 hq with rfl | rfl | rfl | rfl | rfl | rfl <;> first
    | (refine br_t (by decide) ?_; exact ⟨Or.inr rfl, rfl, rfl, rfl, rfl⟩)
    | (refine br_f (by decide) ?_
       refine Exists.intro _ ⟨by decide, rfl, ?_⟩
       first
         | (refine br_t (by decide) ?_; exact ⟨Or.inr rfl, rfl, rfl, rfl, rfl⟩)
         | (refine br_f (by decide) ?_
            first
              | (refine bn_t (by decide) ?_; exact ⟨Or.inl rfl, rfl, rfl, rfl, rfl⟩)
              | (refine bn_f (by decide) ?_; exact ⟨Or.inr rfl, rfl, rfl, rfl, rfl⟩)))

theorem c_K_flight (hp : List Am_C) (k h : Nat) (hk : k < 6) (hh : 1 ≤ h ∧ h ≤ 7) : Am_Ev false 1 0 0 46 [.int (nI k), .int (nI h)] (hp) (some (.int (landI (nI k) (nI h)))) (hp) := by
  refine am_ev 2 (some .int) false [] ok_K_flight am_mP_46 (by rw [am_m_46]) (by rw [am_m_46]) (fun h => by cases h) (Nat.le_of_ble_eq_true rfl) ?_
  intro Go hG
  refine hG 200 _ _ _ _ _ _ ?_
  have T : ∀ A B : Prop, (A → B) → True := fun _ _ _ => trivial
  rcases lt6 hk with rfl | rfl | rfl | rfl | rfl | rfl <;> rcases in17 hh with rfl | rfl | rfl | rfl | rfl | rfl | rfl <;>
    (refine Exists.intro _ ⟨by decide, rfl, ?_⟩
     first
     | (refine br_t (by decide) ?_; exact ⟨by decide, rfl, rfl, rfl⟩)
     | (refine br_f (by decide) ?_
        refine Exists.intro _ ⟨by decide, rfl, ?_⟩
        first
        | (refine br_f (by decide) ?_; exact ⟨by decide, rfl, rfl, rfl⟩)
        | (refine br_t (by decide) ?_
           refine Exists.intro 0 (Exists.intro _ (Exists.intro _ ⟨by decide, c_K_isOf _ _ 1 (by decide) (by decide), ?_⟩))
           first
           | (refine br_f (by decide) ?_; refine And.intro (by decide) ?_; exact ⟨by decide, rfl, rfl, rfl⟩)
           | (refine br_t (by decide) ?_
              refine Exists.intro 0 (Exists.intro _ (Exists.intro _ ⟨by decide, c_K_isOf _ _ 3 (by decide) (by decide), ?_⟩))
              first
              | (refine br_f (by decide) ?_; exact ⟨by decide, rfl, rfl, rfl⟩)
              | (refine br_t (by decide) ?_
                 first
                 | (refine bn_t (by decide) ?_; exact ⟨by decide, rfl, rfl, rfl⟩)
                 | (refine bn_f (by decide) ?_; exact ⟨by decide, rfl, rfl, rfl⟩))))))

theorem c_K_heightsOf (hp : List Am_C) (k : Nat) (hk : k < 6) : Am_Ev false 0 0 0 42 [.int (nI k)] (hp) (some (.int (hgtG (canI (nI k)) 7))) (hp) := by
  refine am_ev 1 (some .int) false [] ok_K_heightsOf am_mP_42 (by rw [am_m_42]) (by rw [am_m_42]) (fun h => by cases h) (Nat.le_of_ble_eq_true rfl) ?_
  intro Go hG
  refine hG 200 _ _ _ _ _ _ ?_
  rcases lt6 hk with rfl | rfl | rfl | rfl | rfl | rfl <;>
    (refine Exists.intro _ ⟨by decide, rfl, ?_⟩
     refine Exists.intro _ ⟨by decide, rfl, ?_⟩
     exact ⟨by decide +kernel, rfl, rfl, rfl⟩)

def dueP (dues i : Int32) : Int32 := (dues.toUInt32 >>> ((nI 4 * i).toUInt32 &&& Int32.toUInt32 31)).toInt32 &&& nI 15
def withP (dues i b : Int32) : Int32 := (dues &&& ((nI 15 <<< ((nI 4 * i) &&& 31)) ^^^ (-nI 1))) ||| (b <<< ((nI 4 * i) &&& 31))
def latP (n : Nat) (dues b : Int32) : Int32 := dues - b * (nI 1118481 &&& ((nI 1 <<< ((nI 4 * nI n) &&& 31)) - nI 1))
def gP (dues : Int32) : Nat → Int32 := fun k => dueP dues (nI k)

theorem c_P_due (hp : List Am_C) (d i : Int32) : Am_Ev false 0 0 0 33 [.int d, .int i] (hp) (some (.int (dueP d i))) (hp) := by
  refine am_ev 2 (some .int) false [] ok_P_due am_mP_33 (by rw [am_m_33]) (by rw [am_m_33]) (fun h => by cases h) (Nat.le_of_ble_eq_true rfl) ?_
  intro Go hG
  refine hG 200 _ _ _ _ _ _ ?_
  exact ⟨rfl, rfl, rfl, rfl⟩

theorem c_P_with (hp : List Am_C) (d i b : Int32) : Am_Ev false 0 0 0 34 [.int d, .int i, .int b] (hp) (some (.int (withP d i b))) (hp) := by
  refine am_ev 3 (some .int) false [] ok_P_with am_mP_34 (by rw [am_m_34]) (by rw [am_m_34]) (fun h => by cases h) (Nat.le_of_ble_eq_true rfl) ?_
  intro Go hG
  refine hG 200 _ _ _ _ _ _ ?_
  exact ⟨rfl, rfl, rfl, rfl⟩

theorem c_P_exchanged (hp : List Am_C) (d i j : Int32) : Am_Ev false 1 0 0 66 [.int d, .int i, .int j] (hp) (some (.int (withP (withP d i (dueP d j)) j (dueP d i)))) (hp) := by
  refine am_ev 3 (some .int) false [] ok_P_exchanged am_mP_66 (by rw [am_m_66]) (by rw [am_m_66]) (fun h => by cases h) (Nat.le_of_ble_eq_true rfl) ?_
  intro Go hG
  refine hG 200 _ _ _ _ _ _ ?_
  refine Exists.intro 0 (Exists.intro _ (Exists.intro _ ⟨by decide, c_P_due _ _ _, ?_⟩))
  refine Exists.intro 0 (Exists.intro _ (Exists.intro _ ⟨by decide, c_P_with _ _ _ _, ?_⟩))
  refine Exists.intro 0 (Exists.intro _ (Exists.intro _ ⟨by decide, c_P_due _ _ _, ?_⟩))
  refine Exists.intro 0 (Exists.intro _ (Exists.intro _ ⟨by decide, c_P_with _ _ _ _, ?_⟩))
  exact ⟨rfl, rfl, rfl, rfl⟩

theorem c_P_sky (hp : List Am_C) (h ka n : Nat) (e : hp[h]? = some (.inr (6, [.int (nI n), .ref ka]))) (hn : n ≤ 6) (d : Int32) : Am_Ev false 1 0 0 32 [.ref h, .int d] (hp) (some (.int (skyG (gP d) n))) (hp) := by
  refine am_ev 4 (some .int) false [4] ok_P_sky am_mP_32 (by rw [am_m_32]) (by rw [am_m_32]) (fun h => by cases h) (Nat.le_of_ble_eq_true rfl) ?_
  intro Go hG
  have L : ∀ (j k : Nat), k + j = n → Go 4 [some (.ref h), some (.int d), some (.int (skyG (gP d) k)), some (.int (nI k))] [] hp 0 0 := by
    intro j
    induction j with
    | zero =>
      intro k hk
      refine hG 200 _ _ _ _ _ _ ?_
      refine am_ob_of e ?_
      refine br_t (nI_le (by omega) (by omega)) ?_
      exact ⟨by rw [show k = n by omega], rfl, rfl, rfl⟩
    | succ j ih =>
      intro k hk
      refine hG 200 _ _ _ _ _ _ ?_
      refine am_ob_of e ?_
      refine br_f (nI_ge (by omega) (by omega)) ?_
      refine Exists.intro 0 (Exists.intro _ (Exists.intro _ ⟨by decide, c_P_due _ _ _, ?_⟩))
      have h := ih (k + 1) (by omega)
      rw [← nI_s1] at h
      exact h
  refine hG 200 _ _ _ _ _ _ ?_
  exact L n 0 (by omega)

theorem c_P_dueTogether (hp : List Am_C) (h ka n : Nat) (e : hp[h]? = some (.inr (6, [.int (nI n), .ref ka]))) (hn : n ≤ 6) (d : Int32) : Am_Ev false 1 0 0 108 [.ref h, .int d] (hp) (some (.int (sumG (gP d) n))) (hp) := by
  refine am_ev 4 (some .int) false [4] ok_P_dueTogether am_mP_108 (by rw [am_m_108]) (by rw [am_m_108]) (fun h => by cases h) (Nat.le_of_ble_eq_true rfl) ?_
  intro Go hG
  have L : ∀ (j k : Nat), k + j = n → Go 4 [some (.ref h), some (.int d), some (.int (sumG (gP d) k)), some (.int (nI k))] [] hp 0 0 := by
    intro j
    induction j with
    | zero =>
      intro k hk
      refine hG 200 _ _ _ _ _ _ ?_
      refine am_ob_of e ?_
      refine br_t (nI_le (by omega) (by omega)) ?_
      exact ⟨by rw [show k = n by omega], rfl, rfl, rfl⟩
    | succ j ih =>
      intro k hk
      refine hG 200 _ _ _ _ _ _ ?_
      refine am_ob_of e ?_
      refine br_f (nI_ge (by omega) (by omega)) ?_
      refine Exists.intro 0 (Exists.intro _ (Exists.intro _ ⟨by decide, c_P_due _ _ _, ?_⟩))
      have h := ih (k + 1) (by omega)
      rw [← nI_s1] at h
      exact h
  refine hG 200 _ _ _ _ _ _ ?_
  exact L n 0 (by omega)

theorem c_P_dueNow (hp : List Am_C) (h ka n : Nat) (e : hp[h]? = some (.inr (6, [.int (nI n), .ref ka]))) (hn : n ≤ 6) (d : Int32) : Am_Ev false 1 0 0 53 [.ref h, .int d] (hp) (some (.int (dueR n (dueG (gP d) n 0)))) (hp) := by
  refine am_ev 3 (some .int) false [2] ok_P_dueNow am_mP_53 (by rw [am_m_53]) (by rw [am_m_53]) (fun h => by cases h) (Nat.le_of_ble_eq_true rfl) ?_
  intro Go hG
  have L : ∀ (j k : Nat), k + j = n → dueG (gP d) j k = dueG (gP d) n 0 → Go 2 [some (.ref h), some (.int d), some (.int (nI k))] [] hp 0 0 := by
    intro j
    induction j with
    | zero =>
      intro k hk he
      refine hG 200 _ _ _ _ _ _ ?_
      refine am_ob_of e ?_
      refine br_t (nI_le (by omega) (by omega)) ?_
      rw [← he]
      refine ⟨?_, rfl, rfl, rfl⟩
      show some (Value.int (-nI 9)) = some (.int (dueR n k))
      rw [dueR, if_neg (by omega)]
    | succ j ih =>
      intro k hk he
      refine hG 200 _ _ _ _ _ _ ?_
      refine am_ob_of e ?_
      refine br_f (nI_ge (by omega) (by omega)) ?_
      refine Exists.intro 0 (Exists.intro _ (Exists.intro _ ⟨by decide, c_P_due _ _ _, ?_⟩))
      rw [← he]
      refine And.intro (fun h1 => ?_) (fun h1 => ?_)
      · have h := ih (k + 1) (by omega) (by rw [← he]; simp only [dueG]; rw [if_neg (show ¬ gP d k = 0 from h1)])
        rw [← nI_s1] at h
        exact h
      · refine ⟨?_, rfl, rfl, rfl⟩
        have h1' : gP d k = 0 := h1
        simp only [dueG]
        rw [if_pos h1', dueR, if_pos (by omega)]
  refine hG 200 _ _ _ _ _ _ ?_
  exact L n 0 (by omega) rfl

def rstG (g : Nat → Int32) (n : Nat) : Int32 := fdI (fun k a => if g k < a then g k else a) n (nI 15)

theorem c_P_restsAhead (hp : List Am_C) (h ka n : Nat) (e : hp[h]? = some (.inr (6, [.int (nI n), .ref ka]))) (hn : n ≤ 6) (d : Int32) : Am_Ev false 1 0 0 80 [.ref h, .int d] (hp) (some (.int (rstG (gP d) n))) (hp) := by
  refine am_ev 4 (some .int) false [5] ok_P_restsAhead am_mP_80 (by rw [am_m_80]) (by rw [am_m_80]) (fun h => by cases h) (Nat.le_of_ble_eq_true rfl) ?_
  intro Go hG
  have L : ∀ (j k : Nat), k + j = n → Go 5 [some (.ref h), some (.int d), some (.int (rstG (gP d) k)), some (.int (nI k))] [] hp 0 0 := by
    intro j
    induction j with
    | zero =>
      intro k hk
      refine hG 200 _ _ _ _ _ _ ?_
      refine am_ob_of e ?_
      refine br_t (nI_le (by omega) (by omega)) ?_
      exact ⟨by rw [show k = n by omega], rfl, rfl, rfl⟩
    | succ j ih =>
      intro k hk
      refine hG 200 _ _ _ _ _ _ ?_
      refine am_ob_of e ?_
      refine br_f (nI_ge (by omega) (by omega)) ?_
      refine Exists.intro 0 (Exists.intro _ (Exists.intro _ ⟨by decide, c_P_due _ _ _, ?_⟩))
      have h := ih (k + 1) (by omega)
      rw [← nI_s1] at h
      exact h
  refine hG 200 _ _ _ _ _ _ ?_
  exact L n 0 (by omega)

theorem c_P_later (hp : List Am_C) (h ka n : Nat) (e : hp[h]? = some (.inr (6, [.int (nI n), .ref ka]))) (hn : n ≤ 6) (d b : Int32) : Am_Ev false 0 0 0 58 [.ref h, .int d, .int b] (hp) (some (.int (latP n d b))) (hp) := by
  refine am_ev 3 (some .int) false [] ok_P_later am_mP_58 (by rw [am_m_58]) (by rw [am_m_58]) (fun h => by cases h) (Nat.le_of_ble_eq_true rfl) ?_
  intro Go hG
  refine hG 200 _ _ _ _ _ _ ?_
  refine am_ob_of e ?_
  exact ⟨rfl, rfl, rfl, rfl⟩

theorem c_P_rested (hp : List Am_C) (h ka n : Nat) (e : hp[h]? = some (.inr (6, [.int (nI n), .ref ka]))) (hn : n ≤ 6) (d : Int32) : Am_Ev false 2 0 0 79 [.ref h, .int d] (hp) (some (.int (latP n d (rstG (gP d) n)))) (hp) := by
  refine am_ev 2 (some .int) false [] ok_P_rested am_mP_79 (by rw [am_m_79]) (by rw [am_m_79]) (fun h => by cases h) (Nat.le_of_ble_eq_true rfl) ?_
  intro Go hG
  refine hG 200 _ _ _ _ _ _ ?_
  refine am_vt e rfl ?_
  refine Exists.intro 1 (Exists.intro _ (Exists.intro _ ⟨by decide, c_P_restsAhead hp h ka n e hn d, ?_⟩))
  refine am_vt e rfl ?_
  refine Exists.intro 0 (Exists.intro _ (Exists.intro _ ⟨by decide, c_P_later hp h ka n e hn d _, ?_⟩))
  exact ⟨rfl, rfl, rfl, rfl⟩

def frB (s b : Int32) : Bool := decide (¬ b = -nI 9) && !hasB s b
theorem and1 (x : Int32) : (x &&& nI 1 = 0 ∧ ¬ x &&& nI 1 = nI 1) ∨ (¬ x &&& nI 1 = 0 ∧ x &&& nI 1 = nI 1) := by
  obtain ⟨j, hj, h⟩ := pk_andE x (m := nI 1) 1 (by decide)
  rw [h]
  rcases (show j = 0 ∨ j = 1 by omega) with rfl | rfl <;> decide

theorem c_P_isFree (hp : List Am_C) (s b : Int32) : Am_Ev false 0 0 0 54 [.int s, .int b] (hp) (some (.int (b2 (frB s b)))) (hp) := by
  refine am_ev 2 (some .boolean) false [] ok_P_isFree am_mP_54 (by rw [am_m_54]) (by rw [am_m_54]) (fun h => by cases h) (Nat.le_of_ble_eq_true rfl) ?_
  intro Go hG
  refine hG 200 _ _ _ _ _ _ ?_
  refine And.intro (fun h1 => ?_) (fun h1 => And.intro (fun h2 => ?_) (fun h2 => ?_))
  · exact ⟨Or.inl rfl, by simp [frB, b2, h1], rfl, rfl, rfl⟩
  · refine ⟨Or.inl rfl, ?_, rfl, rfl, rfl⟩
    have h3 : hasB s b = true := by
      unfold hasB
      rcases and1 (s >>> (b &&& 31)) with ⟨q, -⟩ | ⟨-, q⟩
      · exact absurd q h2
      · exact decide_eq_true q
    unfold frB
    rw [h3]
    simp [b2]
  · refine ⟨Or.inr rfl, ?_, rfl, rfl, rfl⟩
    have h3 : hasB s b = false := by
      unfold hasB
      rcases and1 (s >>> (b &&& 31)) with ⟨-, q⟩ | ⟨q, -⟩
      · exact decide_eq_false q
      · exact absurd h2 q
    unfold frB
    rw [h3, decide_eq_true h1]
    rfl

theorem c_P_mayGo (hp : List Am_C) (h ka n : Nat) (e : hp[h]? = some (.inr (6, [.int (nI n), .ref ka]))) (hn : n ≤ 6) (kd : Nat → Nat) (kf : Nat → Int32) (e2 : hp[ka]? = some (.inl (0, 6, .inl kf))) (hk : ∀ i, i < n → kf i = nI (kd i) ∧ kd i < 6) (d : Int32) (q : Nat) (hq : 1 ≤ q ∧ q ≤ 7) : Am_Ev false 2 0 0 52 [.ref h, .int d, .int (nI q)] (hp) (some (.int (b2 (mayG (gP d) kf n (nI q))))) (hp) := by
  refine am_ev 4 (some .boolean) false [] ok_P_mayGo am_mP_52 (by rw [am_m_52]) (by rw [am_m_52]) (fun h => by cases h) (Nat.le_of_ble_eq_true rfl) ?_
  intro Go hG
  obtain ⟨r, hr0⟩ : ∃ r, mayG (gP d) kf n (nI q) = r := ⟨_, rfl⟩
  obtain ⟨i, hd⟩ : ∃ i, dueG (gP d) n 0 = i := ⟨_, rfl⟩
  have hr := hr0
  unfold mayG at hr
  rw [hd] at hr
  refine hG 200 _ _ _ _ _ _ ?_
  refine am_vt e rfl ?_
  refine Exists.intro 1 (Exists.intro _ (Exists.intro _ ⟨by decide, c_P_dueNow hp h ka n e hn d, ?_⟩))
  rw [hd]
  by_cases hi : i < n
  · rw [dueR_yes hi]
    rw [decide_eq_true hi, Bool.true_and] at hr
    refine br_f (nI_m9 (by omega)) ?_
    refine am_vt e rfl ?_
    refine Exists.intro 1 (Exists.intro _ (Exists.intro _ ⟨by decide, c_P_sky hp h ka n e hn d, ?_⟩))
    refine am_ob_of e ?_
    refine am_ai_of e2 rfl ?_
    refine Exists.intro i ⟨by omega, rfl, ?_⟩
    have hc := c_K_flight hp (kd i) q (hk i hi).2 hq
    rw [← (hk i hi).1] at hc
    refine Exists.intro 1 (Exists.intro _ (Exists.intro _ ⟨by decide, hc, ?_⟩))
    refine Exists.intro 0 (Exists.intro _ (Exists.intro _ ⟨by decide, c_P_isFree _ _ _, ?_⟩))
    have hf : frB (skyG (gP d) n) (landI (kf i) (nI q)) = r := hr
    rw [hf]
    refine b2_z (fun h2 => ?_) (fun h2 => ?_)
    · exact ⟨Or.inl rfl, by rw [hr0, h2]; rfl, rfl, rfl, rfl⟩
    · exact ⟨Or.inr rfl, by rw [hr0, h2]; rfl, rfl, rfl, rfl⟩
  · rw [dueR_no hi]
    rw [decide_eq_false hi, Bool.false_and] at hr
    refine br_t rfl ?_
    exact ⟨Or.inl rfl, by rw [hr0, ← hr]; rfl, rfl, rfl, rfl⟩

theorem c_P_heightsNow (hp : List Am_C) (h ka n : Nat) (e : hp[h]? = some (.inr (6, [.int (nI n), .ref ka]))) (hn : n ≤ 6) (kd : Nat → Nat) (kf : Nat → Int32) (e2 : hp[ka]? = some (.inl (0, 6, .inl kf))) (hk : ∀ i, i < n → kf i = nI (kd i) ∧ kd i < 6) (d : Int32) : Am_Ev false 2 0 0 75 [.ref h, .int d] (hp) (some (.int (hgtG (mayG (gP d) kf n) 7))) (hp) := by
  refine am_ev 6 (some .int) false [26] ok_P_heightsNow am_mP_75 (by rw [am_m_75]) (by rw [am_m_75]) (fun h => by cases h) (Nat.le_of_ble_eq_true rfl) ?_
  intro Go hG
  obtain ⟨i, hd⟩ : ∃ i, dueG (gP d) n 0 = i := ⟨_, rfl⟩
  by_cases hi : i < n
  · have em : ∀ z, mayG (gP d) kf n z = frB (skyG (gP d) n) (landI (kf i) z) := by
      intro z
      unfold mayG frB
      rw [hd, decide_eq_true hi, Bool.true_and]
    have L : ∀ (j k : Nat), k + j = 7 → Go 26 [some (.ref h), some (.int d), some (.int (nI i)), some (.int (skyG (gP d) n)), some (.int (hgtG (mayG (gP d) kf n) k)), some (.int (nI (k + 1)))] [] hp 0 0 := by
      intro j
      induction j with
      | zero =>
        intro k hk
        refine hG 200 _ _ _ _ _ _ ?_
        refine br_t (nI_lt (by omega) (by omega)) ?_
        exact ⟨by rw [show k = 7 by omega], rfl, rfl, rfl⟩
      | succ j ih =>
        intro k hk7
        refine hG 200 _ _ _ _ _ _ ?_
        refine br_f (nI_nlt (by omega) (by omega)) ?_
        refine am_ob_of e ?_
        refine am_ai_of e2 rfl ?_
        refine Exists.intro i ⟨by omega, rfl, ?_⟩
        have hc := c_K_flight hp (kd i) (k + 1) (hk i hi).2 (by omega)
        rw [← (hk i hi).1] at hc
        refine Exists.intro 1 (Exists.intro _ (Exists.intro _ ⟨by decide, hc, ?_⟩))
        refine Exists.intro 0 (Exists.intro _ (Exists.intro _ ⟨by decide, c_P_isFree _ _ _, ?_⟩))
        have h9 := ih (k + 1) (by omega)
        rw [← nI_s1 (k + 1)] at h9
        rw [← em]
        refine b2_z (fun h1 => ?_) (fun h1 => ?_)
        · rw [hgtG_f h1, or0] at h9
          exact h9
        · rw [hgtG_t h1] at h9
          exact h9
    refine hG 200 _ _ _ _ _ _ ?_
    refine am_vt e rfl ?_
    refine Exists.intro 1 (Exists.intro _ (Exists.intro _ ⟨by decide, c_P_dueNow hp h ka n e hn d, ?_⟩))
    rw [hd, dueR_yes hi]
    refine bn_t (nI_m9 (by omega)) ?_
    refine am_vt e rfl ?_
    refine Exists.intro 1 (Exists.intro _ (Exists.intro _ ⟨by decide, c_P_sky hp h ka n e hn d, ?_⟩))
    exact L 7 0 (by omega)
  · have em : ∀ z, mayG (gP d) kf n z = false := by
      intro z
      unfold mayG
      rw [hd, decide_eq_false hi, Bool.false_and]
    refine hG 200 _ _ _ _ _ _ ?_
    refine am_vt e rfl ?_
    refine Exists.intro 1 (Exists.intro _ (Exists.intro _ ⟨by decide, c_P_dueNow hp h ka n e hn d, ?_⟩))
    rw [hd, dueR_no hi]
    refine bn_f rfl ?_
    refine ⟨?_, rfl, rfl, rfl⟩
    have h7 : hgtG (mayG (gP d) kf n) 7 = nI 0 := by
      have hs : ∀ k, hgtG (mayG (gP d) kf n) k = nI 0 := by
        intro k
        induction k with
        | zero => rfl
        | succ k ih => rw [hgtG_f (em _), or0, ih]
      exact hs 7
    rw [h7]

theorem c_P_thrown (hp : List Am_C) (h ka n : Nat) (e : hp[h]? = some (.inr (6, [.int (nI n), .ref ka]))) (hn : n ≤ 6) (kd : Nat → Nat) (kf : Nat → Int32) (e2 : hp[ka]? = some (.inl (0, 6, .inl kf))) (hk : ∀ i, i < n → kf i = nI (kd i) ∧ kd i < 6) (d : Int32) (q i : Nat) (hq : 1 ≤ q ∧ q ≤ 7) (hd : dueG (gP d) n 0 = i) (hi : i < n) : Am_Ev false 2 0 0 57 [.ref h, .int d, .int (nI q)] (hp) (some (.int (latP n (withP d (nI i) (landI (kf i) (nI q))) (nI 1)))) (hp) := by
  refine am_ev 4 (some .int) false [] ok_P_thrown am_mP_57 (by rw [am_m_57]) (by rw [am_m_57]) (fun h => by cases h) (Nat.le_of_ble_eq_true rfl) ?_
  intro Go hG
  refine hG 200 _ _ _ _ _ _ ?_
  refine am_vt e rfl ?_
  refine Exists.intro 1 (Exists.intro _ (Exists.intro _ ⟨by decide, c_P_dueNow hp h ka n e hn d, ?_⟩))
  rw [hd, dueR_yes hi]
  refine bn_t (nI_m9 (by omega)) ?_
  refine am_ob_of e ?_
  refine am_ai_of e2 rfl ?_
  refine Exists.intro i ⟨by omega, rfl, ?_⟩
  have hc := c_K_flight hp (kd i) q (hk i hi).2 hq
  rw [← (hk i hi).1] at hc
  refine Exists.intro 1 (Exists.intro _ (Exists.intro _ ⟨by decide, hc, ?_⟩))
  refine Exists.intro 0 (Exists.intro _ (Exists.intro _ ⟨by decide, c_P_with _ _ _ _, ?_⟩))
  refine am_vt e rfl ?_
  refine Exists.intro 0 (Exists.intro _ (Exists.intro _ ⟨by decide, c_P_later hp h ka n e hn _ _, ?_⟩))
  exact ⟨rfl, rfl, rfl, rfl⟩
end
section
/-! ===== the numbers behind both: dues as naturals ===== -/
def gN (du : Nat → Nat) : Nat → Int32 := fun k => nI (du k)
theorem fdI_congr {f g : Nat → Int32 → Int32} : ∀ (n : Nat) (a : Int32), (∀ k, k < n → ∀ b, f k b = g k b) → fdI f n a = fdI g n a
  | 0, _, _ => rfl
  | n + 1, a, h => by
    show f n (fdI f n a) = g n (fdI g n a)
    rw [fdI_congr n a (fun k hk => h k (by omega)), h n (by omega)]
theorem skyG_congr {g h : Nat → Int32} {n : Nat} (e : ∀ k, k < n → g k = h k) : skyG g n = skyG h n := fdI_congr n _ (fun k hk b => by rw [e k hk])
theorem sumG_congr {g h : Nat → Int32} {n : Nat} (e : ∀ k, k < n → g k = h k) : sumG g n = sumG h n := fdI_congr n _ (fun k hk b => by rw [e k hk])
theorem rstG_congr {g h : Nat → Int32} {n : Nat} (e : ∀ k, k < n → g k = h k) : rstG g n = rstG h n := fdI_congr n _ (fun k hk b => by rw [e k hk])
theorem dueG_congr {g h : Nat → Int32} {n : Nat} (e : ∀ k, k < n → g k = h k) : ∀ (j k : Nat), k + j = n → dueG g j k = dueG h j k
  | 0, _, _ => rfl
  | j + 1, k, hk => by
    show (if g k = 0 then k else dueG g j (k + 1)) = (if h k = 0 then k else dueG h j (k + 1))
    rw [e k (by omega), dueG_congr e j (k + 1) (by omega)]
theorem mayG_congr {g h kf kh : Nat → Int32} {n : Nat} (e : ∀ k, k < n → g k = h k) (e2 : ∀ k, k < n → kf k = kh k) (z : Int32) : mayG g kf n z = mayG h kh n z := by
  unfold mayG
  rw [dueG_congr e n 0 (by omega), skyG_congr e]
  by_cases hd : dueG h n 0 < n
  · rw [e2 _ hd]
  · rw [decide_eq_false hd, Bool.false_and, Bool.false_and]
theorem hgtG_congr {p q : Int32 → Bool} (e : ∀ z, p z = q z) (n : Nat) : hgtG p n = hgtG q n := fdI_congr n _ (fun k hk b => by rw [e])
def skyS (n : Nat) (du : Nat → Nat) : Int32 := skyG (gN du) n
def dueS (n : Nat) (du : Nat → Nat) : Nat := dueG (gN du) n 0
def sumS (n : Nat) (du : Nat → Nat) : Int32 := sumG (gN du) n
def mayS (n : Nat) (kd du : Nat → Nat) (z : Int32) : Bool := mayG (gN du) (gN kd) n z
def hgtS (n : Nat) (kd du : Nat → Nat) : Int32 := hgtG (mayS n kd du) 7
/-- the dues are apart, and small -/
def apart (n : Nat) (du : Nat → Nat) : Prop := (∀ k, k < n → du k ≤ 14) ∧ ∀ i j, i < n → j < n → du i = du j → i = j
theorem nI_z {k : Nat} (h : k < 2 ^ 31) : nI k = 0 ↔ k = 0 := by
  rw [show (0 : Int32) = nI 0 from rfl]
  exact nI_eq h (by omega)
theorem dueG_spec {g : Nat → Int32} : ∀ (j k : Nat), k ≤ dueG g j k ∧ dueG g j k ≤ k + j ∧ (∀ q, k ≤ q → q < dueG g j k → ¬ g q = 0) ∧ (dueG g j k < k + j → g (dueG g j k) = 0)
  | 0, k => ⟨Nat.le_refl _, Nat.le_refl _, fun q h1 h2 => by simp only [dueG] at h2; omega, fun h => by simp only [dueG] at h; omega⟩
  | j + 1, k => by
    have ih := dueG_spec (g := g) j (k + 1)
    by_cases h : g k = 0
    · have e : dueG g (j + 1) k = k := by simp only [dueG]; rw [if_pos h]
      rw [e]
      exact ⟨Nat.le_refl _, by omega, fun q h1 h2 => by omega, fun _ => h⟩
    · have e : dueG g (j + 1) k = dueG g j (k + 1) := by simp only [dueG]; rw [if_neg h]
      rw [e]
      refine ⟨by omega, by omega, fun q h1 h2 => ?_, fun h1 => ih.2.2.2 (by omega)⟩
      by_cases hq : q = k
      · rw [hq]; exact h
      · exact ih.2.2.1 q (by omega) h2
theorem dueS_le (n : Nat) (du : Nat → Nat) : dueS n du ≤ n := by
  have h := (dueG_spec (g := gN du) n 0).2.1
  unfold dueS
  omega
theorem dueS_z {n : Nat} {du : Nat → Nat} (hd : ∀ k, k < n → du k ≤ 14) (h : dueS n du < n) : du (dueS n du) = 0 := by
  have h1 := (dueG_spec (g := gN du) n 0).2.2.2 (by rw [Nat.zero_add]; exact h)
  have h2 := hd _ h
  exact (nI_z (by omega)).mp h1
theorem dueS_pos {n : Nat} {du : Nat → Nat} (h : ¬ dueS n du < n) : ∀ k, k < n → 1 ≤ du k := by
  intro k hk
  have h0 := dueS_le n du
  have h1 := (dueG_spec (g := gN du) n 0).2.2.1 k (by omega) (by unfold dueS at h h0; omega)
  have h2 : ¬ nI (du k) = 0 := h1
  rcases Nat.eq_zero_or_pos (du k) with h3 | h3
  · rw [h3] at h2
    exact absurd rfl h2
  · exact h3
theorem dueS_lt {n : Nat} {du : Nat → Nat} {k : Nat} (hk : k < n) (h : du k = 0) : dueS n du < n := by
  by_cases hq : dueS n du < n
  · exact hq
  · have := dueS_pos hq k hk
    omega
/-- how many rests there can be -/
def mnS (du : Nat → Nat) : Nat → Nat
  | 0 => 15
  | n + 1 => min (mnS du n) (du n)
theorem mnS_le {du : Nat → Nat} : ∀ {n k : Nat}, k < n → mnS du n ≤ du k
  | 0, k, h => by omega
  | n + 1, k, h => by
    have := mnS_le (du := du) (n := n) (k := k)
    simp only [mnS]
    by_cases hk : k = n
    · subst hk
      exact Nat.min_le_right _ _
    · exact Nat.le_trans (Nat.min_le_left _ _) (this (by omega))
theorem mnS_at {du : Nat → Nat} : ∀ {n : Nat}, (∀ k, k < n → du k ≤ 14) → 0 < n → ∃ k, k < n ∧ mnS du n = du k
  | 0, _, h => by omega
  | n + 1, hd, _ => by
    simp only [mnS]
    by_cases h : mnS du n ≤ du n
    · rw [Nat.min_eq_left h]
      by_cases hn : 0 < n
      · obtain ⟨k, hk, e⟩ := mnS_at (n := n) (fun k hk => hd k (by omega)) hn
        exact ⟨k, by omega, e⟩
      · have : n = 0 := by omega
        subst this
        have h1 := hd 0 (by omega)
        simp only [mnS] at h
        omega
    · rw [Nat.min_eq_right (by omega)]
      exact ⟨n, by omega, rfl⟩
theorem mnS_15 {du : Nat → Nat} : ∀ n, mnS du n ≤ 15
  | 0 => Nat.le_refl _
  | n + 1 => Nat.le_trans (Nat.min_le_left _ _) (mnS_15 n)
theorem rstG_S {du : Nat → Nat} : ∀ {n : Nat}, (∀ k, k < n → du k ≤ 14) → rstG (gN du) n = nI (mnS du n)
  | 0, _ => rfl
  | n + 1, hd => by
    have ih := rstG_S (du := du) (n := n) (fun k hk => hd k (by omega))
    have h1 := hd n (by omega)
    have h2 := mnS_15 (du := du) n
    show (if gN du n < rstG (gN du) n then gN du n else rstG (gN du) n) = nI (min (mnS du n) (du n))
    rw [ih]
    show (if nI (du n) < nI (mnS du n) then nI (du n) else nI (mnS du n)) = _
    by_cases h : du n < mnS du n
    · rw [if_pos (nI_lt h (by omega)), Nat.min_eq_right (by omega)]
    · rw [if_neg (nI_nlt (by omega) (by omega)), Nat.min_eq_left (by omega)]
def latS (r : Nat) (du : Nat → Nat) : Nat → Nat := fun k => du k - r
def rstS (n : Nat) (du : Nat → Nat) : Nat → Nat := latS (mnS du n) du
theorem rstS_due {n : Nat} {du : Nat → Nat} (hd : ∀ k, k < n → du k ≤ 14) (hn : 0 < n) : dueS n (rstS n du) < n := by
  obtain ⟨k, hk, e⟩ := mnS_at hd hn
  refine dueS_lt hk ?_
  show du k - mnS du n = 0
  omega
theorem apart_lat {n r : Nat} {du : Nat → Nat} (h : apart n du) (hr : ∀ k, k < n → r ≤ du k) : apart n (latS r du) := by
  refine ⟨fun k hk => ?_, fun i j hi hj e => h.2 i j hi hj ?_⟩
  · show du k - r ≤ 14
    have := h.1 k hk
    omega
  · have e1 : du i - r = du j - r := e
    have := hr i hi
    have := hr j hj
    omega
theorem apart_rst {n : Nat} {du : Nat → Nat} (h : apart n du) : apart n (rstS n du) := apart_lat h (fun k hk => mnS_le hk)
/-- in how many beats a thing of a kind comes down; 0: it can't be thrown so -/
def lnd (k h : Nat) : Nat := match k with
  | 0 => h
  | 1 => h + h % 2
  | 2 => 2 * h
  | 3 => if h ≤ 1 then 1 else h - 1
  | 4 => if 3 ≤ h then h + h % 2 else 0
  | _ => if h ≤ 4 then (if h ≤ 1 then 1 else h - 1) else 0
def ldR (v : Nat) : Int32 := if v = 0 then -nI 9 else nI v
theorem landI_S {k h : Nat} (hk : k < 6) (hh : 1 ≤ h ∧ h ≤ 7) : landI (nI k) (nI h) = ldR (lnd k h) := by
  rcases lt6 hk with rfl | rfl | rfl | rfl | rfl | rfl <;> rcases in17 hh with rfl | rfl | rfl | rfl | rfl | rfl | rfl <;> decide +kernel
theorem lnd_le {k h : Nat} (hk : k < 6) (hh : 1 ≤ h ∧ h ≤ 7) : lnd k h ≤ 14 := by
  rcases lt6 hk with rfl | rfl | rfl | rfl | rfl | rfl <;> rcases in17 hh with rfl | rfl | rfl | rfl | rfl | rfl | rfl <;> decide
/-- the sky as a natural -/
def skN (du : Nat → Nat) : Nat → Nat
  | 0 => 0
  | n + 1 => skN du n ||| 2 ^ du n
theorem nI_or (a b : Nat) : nI a ||| nI b = nI (a ||| b) := by
  unfold nI
  apply Int32.toBitVec_inj.mp
  apply BitVec.eq_of_toNat_eq
  simp [Int32.toBitVec_or, Int32.toBitVec_ofNat', Nat.or_mod_two_pow]
theorem nI_one_shl {k : Nat} (h : k < 31) : nI 1 <<< (nI k &&& 31) = nI (2 ^ k) := by
  have hs : ((nI k &&& 31).toBitVec.smod 32).toNat = k := by
    have : ∀ q, q < 31 → ((nI q &&& 31).toBitVec.smod 32).toNat = q := by decide
    exact this k h
  have h2 : 1 * 2 ^ k < 2 ^ 32 := by
    rw [Nat.one_mul]
    exact Nat.pow_lt_pow_right (by omega) (by omega)
  have h1 := pk_shlN (n := 1) (nI k &&& 31) k hs h2
  rw [Nat.one_mul] at h1
  exact h1
theorem skyS_N {du : Nat → Nat} : ∀ {n : Nat}, (∀ k, k < n → du k ≤ 14) → skyS n du = nI (skN du n)
  | 0, _ => rfl
  | n + 1, hd => by
    have ih := skyS_N (du := du) (n := n) (fun k hk => hd k (by omega))
    have h1 := hd n (by omega)
    show skyS n du ||| (nI 1 <<< (nI (du n) &&& 31)) = nI (skN du n ||| 2 ^ du n)
    rw [ih, nI_one_shl (by omega), nI_or]
theorem skN_bit {du : Nat → Nat} {l : Nat} : ∀ {n : Nat}, (skN du n).testBit l = true ↔ ∃ k, k < n ∧ du k = l
  | 0 => by
    constructor
    · intro h; simp [skN] at h
    · intro ⟨k, hk, _⟩; omega
  | n + 1 => by
    have ih := skN_bit (du := du) (l := l) (n := n)
    show (skN du n ||| 2 ^ du n).testBit l = true ↔ _
    rw [Nat.testBit_or, Bool.or_eq_true, ih, Nat.testBit_two_pow]
    constructor
    · intro h
      rcases h with ⟨k, hk, e⟩ | h
      · exact ⟨k, by omega, e⟩
      · exact ⟨n, by omega, by simpa using h⟩
    · intro ⟨k, hk, e⟩
      by_cases hkn : k = n
      · subst hkn
        right
        simpa using e
      · left
        exact ⟨k, by omega, e⟩
theorem skN_lt {du : Nat → Nat} : ∀ {n : Nat}, (∀ k, k < n → du k ≤ 14) → skN du n < 32768
  | 0, _ => by show 0 < 32768; decide
  | n + 1, hd => by
    have ih := skN_lt (du := du) (n := n) (fun k hk => hd k (by omega))
    have h1 := hd n (by omega)
    show skN du n ||| 2 ^ du n < 2 ^ 15
    refine Nat.or_lt_two_pow ih ?_
    exact Nat.pow_lt_pow_right (by omega) (by omega)
theorem hasB_N {s l : Nat} (hs : s < 2 ^ 31) (hl : l < 31) : hasB (nI s) (nI l) = s.testBit l := by
  unfold hasB
  have e1 : ((nI l &&& 31).toBitVec.smod 32).toNat = l := by
    have : ∀ q, q < 31 → ((nI q &&& 31).toBitVec.smod 32).toNat = q := by decide
    exact this l hl
  rw [pk_shrN hs (nI l &&& 31) l e1, pk_andN (n := s / 2 ^ l) (by have := Nat.div_le_self s (2 ^ l); omega) (m := nI 1) 1 (by decide)]
  rw [Nat.testBit_eq_decide_div_mod_eq]
  by_cases h : s / 2 ^ l % 2 = 1
  · rw [decide_eq_true h, Nat.pow_one, h]
    rfl
  · rw [decide_eq_false h, Nat.pow_one, show s / 2 ^ l % 2 = 0 by omega]
    rfl
/-- what may be thrown -/
theorem mayS_iff {n h : Nat} {kd du : Nat → Nat} (hd : ∀ k, k < n → du k ≤ 14) (hk : ∀ i, i < n → kd i < 6) (hh : 1 ≤ h ∧ h ≤ 7) : mayS n kd du (nI h) = true ↔ dueS n du < n ∧ lnd (kd (dueS n du)) h ≠ 0 ∧ ∀ k, k < n → du k ≠ lnd (kd (dueS n du)) h := by
  unfold mayS mayG
  rw [show dueG (gN du) n 0 = dueS n du from rfl]
  by_cases hi : dueS n du < n
  · have e1 : landI (gN kd (dueS n du)) (nI h) = ldR (lnd (kd (dueS n du)) h) := landI_S (hk _ hi) hh
    have h14 := lnd_le (hk _ hi) hh
    rw [e1, decide_eq_true hi, Bool.true_and]
    generalize lnd (kd (dueS n du)) h = v at h14 ⊢
    unfold ldR
    by_cases hv : v = 0
    · rw [if_pos hv]
      simp [hv]
    · rw [if_neg hv, decide_eq_true (nI_m9 (by omega)), Bool.true_and, show skyG (gN du) n = nI (skN du n) from skyS_N hd, hasB_N (by have := skN_lt hd; omega) (by omega)]
      have hb := skN_bit (du := du) (l := v) (n := n)
      cases hx : (skN du n).testBit v with
      | true =>
        rw [hx] at hb
        obtain ⟨k, hk1, hk2⟩ := hb.mp rfl
        simp only [Bool.not_true, Bool.false_eq_true, false_iff]
        intro hq
        exact hq.2.2 k hk1 hk2
      | false =>
        simp only [Bool.not_false, true_iff]
        refine ⟨hi, hv, fun k hk1 hk2 => ?_⟩
        have := hb.mpr ⟨k, hk1, hk2⟩
        rw [hx] at this
        cases this
  · rw [decide_eq_false hi, Bool.false_and]
    simp [hi]
def setS (du : Nat → Nat) (i v : Nat) : Nat → Nat := fun k => if k = i then v else du k
def tosS (n : Nat) (kd du : Nat → Nat) (h : Nat) : Nat → Nat := latS 1 (setS du (dueS n du) (lnd (kd (dueS n du)) h))
theorem tos_pos {n h : Nat} {kd du : Nat → Nat} (ha : apart n du) (hk : ∀ i, i < n → kd i < 6) (hh : 1 ≤ h ∧ h ≤ 7) (hm : mayS n kd du (nI h) = true) : apart n (setS du (dueS n du) (lnd (kd (dueS n du)) h)) ∧ ∀ k, k < n → 1 ≤ setS du (dueS n du) (lnd (kd (dueS n du)) h) k := by
  obtain ⟨hi, hv, hf⟩ := (mayS_iff ha.1 hk hh).mp hm
  have h14 := lnd_le (hk _ hi) hh
  have hz := dueS_z ha.1 hi
  generalize lnd (kd (dueS n du)) h = v at hv hf h14 ⊢
  generalize dueS n du = i at hi hz ⊢
  have hp : ∀ k, k < n → 1 ≤ setS du i v k := by
    intro k hk1
    unfold setS
    by_cases hki : k = i
    · rw [if_pos hki]; omega
    · rw [if_neg hki]
      rcases Nat.eq_zero_or_pos (du k) with h3 | h3
      · exact absurd (ha.2 k i hk1 hi (by omega)) hki
      · exact h3
  refine ⟨⟨fun k hk1 => ?_, fun a b h1 h2 e => ?_⟩, hp⟩
  · unfold setS
    split
    · exact h14
    · exact ha.1 k hk1
  · unfold setS at e
    by_cases ea : a = i <;> by_cases eb : b = i
    · omega
    · rw [if_pos ea, if_neg eb] at e
      exact absurd e.symm (hf b h2)
    · rw [if_neg ea, if_pos eb] at e
      exact absurd e (hf a h1)
    · rw [if_neg ea, if_neg eb] at e
      exact ha.2 a b h1 h2 e
theorem apart_tos {n h : Nat} {kd du : Nat → Nat} (ha : apart n du) (hk : ∀ i, i < n → kd i < 6) (hh : 1 ≤ h ∧ h ≤ 7) (hm : mayS n kd du (nI h) = true) : apart n (tosS n kd du h) := by
  obtain ⟨h1, h2⟩ := tos_pos ha hk hh hm
  exact apart_lat h1 h2
end
section
/-! ===== dues in one int, four bits each ===== -/
def pkN (du : Nat → Nat) : Nat → Nat
  | 0 => 0
  | n + 1 => 2 ^ (4 * n) * du n + pkN du n
def le15 (n : Nat) (du : Nat → Nat) : Prop := ∀ k, k < n → du k ≤ 15
theorem pkN_lt {du : Nat → Nat} : ∀ {n : Nat}, le15 n du → pkN du n < 2 ^ (4 * n)
  | 0, _ => by show 0 < 2 ^ 0; decide
  | n + 1, h => by
    have ih := pkN_lt (du := du) (n := n) (fun k hk => h k (by omega))
    have h1 := h n (by omega)
    show 2 ^ (4 * n) * du n + pkN du n < 2 ^ (4 * (n + 1))
    rw [show 4 * (n + 1) = 4 * n + 4 by omega, Nat.pow_add]
    have h2 : 2 ^ (4 * n) * du n ≤ 2 ^ (4 * n) * 15 := Nat.mul_le_mul_left _ h1
    have h3 : 2 ^ (4 * n) * 2 ^ 4 = 2 ^ (4 * n) * 15 + 2 ^ (4 * n) := by
      rw [show (2 : Nat) ^ 4 = 15 + 1 from rfl, Nat.mul_add, Nat.mul_one]
    omega
theorem pkN_bit {du : Nat → Nat} {j : Nat} : ∀ {n : Nat}, le15 n du → (pkN du n).testBit j = (decide (j / 4 < n) && (du (j / 4)).testBit (j % 4))
  | 0, _ => by
    rw [decide_eq_false (by omega), Bool.false_and]
    show Nat.testBit 0 j = false
    exact Nat.zero_testBit j
  | n + 1, h => by
    have h0 : le15 n du := fun k hk => h k (by omega)
    have ih := pkN_bit (du := du) (j := j) (n := n) h0
    show (2 ^ (4 * n) * du n + pkN du n).testBit j = _
    rw [Nat.testBit_two_pow_mul_add _ (pkN_lt h0)]
    by_cases hj : j < 4 * n
    · rw [if_pos hj, ih, decide_eq_true (show j / 4 < n by omega), decide_eq_true (show j / 4 < n + 1 by omega)]
    · rw [if_neg hj]
      by_cases hj2 : j / 4 = n
      · rw [hj2, decide_eq_true (by omega), Bool.true_and, show j - 4 * n = j % 4 by omega]
      · rw [decide_eq_false (by omega), Bool.false_and]
        refine Nat.testBit_lt_two_pow ?_
        have h1 := h n (by omega)
        have h2 : 2 ^ 4 ≤ 2 ^ (j - 4 * n) := Nat.pow_le_pow_right (by omega) (by omega)
        omega
theorem pkN_at {du : Nat → Nat} {n k : Nat} (h : le15 n du) (hk : k < n) : pkN du n / 2 ^ (4 * k) % 16 = du k := by
  have h1 := h k hk
  apply Nat.eq_of_testBit_eq
  intro i
  rw [show (16 : Nat) = 2 ^ 4 from rfl, Nat.testBit_mod_two_pow, Nat.testBit_div_two_pow, pkN_bit h]
  by_cases hi : i < 4
  · rw [decide_eq_true hi, Bool.true_and, show (i + 4 * k) / 4 = k by omega, show (i + 4 * k) % 4 = i by omega, decide_eq_true hk, Bool.true_and]
  · rw [decide_eq_false hi, Bool.false_and]
    symm
    refine Nat.testBit_lt_two_pow ?_
    have h2 : 2 ^ 4 ≤ 2 ^ i := Nat.pow_le_pow_right (by omega) (by omega)
    omega
theorem pkN_congr {du dv : Nat → Nat} : ∀ {n : Nat}, (∀ k, k < n → du k = dv k) → pkN du n = pkN dv n
  | 0, _ => rfl
  | n + 1, h => by
    show 2 ^ (4 * n) * du n + pkN du n = 2 ^ (4 * n) * dv n + pkN dv n
    rw [h n (by omega), pkN_congr (n := n) (fun k hk => h k (by omega))]
theorem pkN_inj {du dv : Nat → Nat} {n : Nat} (h1 : le15 n du) (h2 : le15 n dv) (e : pkN du n = pkN dv n) : ∀ k, k < n → du k = dv k := fun k hk => by
  rw [← pkN_at h1 hk, e, pkN_at h2 hk]
theorem pkN_24 {du : Nat → Nat} {n : Nat} (h : le15 n du) (hn : n ≤ 6) : pkN du n < 16777216 := by
  have h1 := pkN_lt h
  have h2 : 2 ^ (4 * n) ≤ 2 ^ 24 := Nat.pow_le_pow_right (by omega) (by omega)
  omega
theorem gP_S {du : Nat → Nat} {n k : Nat} (h : le15 n du) (hn : n ≤ 6) (hk : k < n) : gP (nI (pkN du n)) k = nI (du k) := by
  have hs : ∀ q, q < 6 → (((nI 4 * nI q).toUInt32 &&& Int32.toUInt32 31).toBitVec % 32).toNat = 4 * q := by decide
  have h24 := pkN_24 h hn
  unfold gP dueP
  rw [pk_ushrN (n := pkN du n) (by omega) (nI 4 * nI k) (4 * k) (hs k (by omega)), pk_andN (n := pkN du n / 2 ^ (4 * k)) (by have := Nat.div_le_self (pkN du n) (2 ^ (4 * k)); omega) (m := nI 15) 4 (by decide)]
  rw [show (2 : Nat) ^ 4 = 16 from rfl, pkN_at h hk]
theorem nI_and (a b : Nat) : nI a &&& nI b = nI (a &&& b) := by
  unfold nI
  apply Int32.toBitVec_inj.mp
  apply BitVec.eq_of_toNat_eq
  simp [Int32.toBitVec_and, Int32.toBitVec_ofNat', Nat.and_mod_two_pow]
theorem withP_S {du : Nat → Nat} {n i b : Nat} (h : le15 n du) (hn : n ≤ 6) (hi : i < n) (hb : b ≤ 15) : withP (nI (pkN du n)) (nI i) (nI b) = nI (pkN (setS du i b) n) := by
  have hM : ∀ q, q < 6 → (nI 15 <<< ((nI 4 * nI q) &&& 31)) ^^^ (-nI 1) = nI (4294967295 - 15 * 2 ^ (4 * q)) := by decide
  have hs : ∀ q, q < 6 → (((nI 4 * nI q) &&& 31).toBitVec.smod 32).toNat = 4 * q := by decide
  have hbit : ∀ q, q < 6 → ∀ j, j < 32 → (4294967295 - 15 * 2 ^ (4 * q)).testBit j = decide (¬ j / 4 = q) := by decide
  have h24 := pkN_24 h hn
  have hp : b * 2 ^ (4 * i) < 2 ^ 32 := by
    have h2 : 2 ^ (4 * i) ≤ 2 ^ 20 := Nat.pow_le_pow_right (by omega) (by omega)
    have h3 : b * 2 ^ (4 * i) ≤ 15 * 2 ^ 20 := Nat.mul_le_mul hb h2
    omega
  have h' : le15 n (setS du i b) := by
    intro k hk
    unfold setS
    split
    · exact hb
    · exact h k hk
  unfold withP
  rw [hM i (by omega), nI_and, pk_shlN (n := b) _ (4 * i) (hs i (by omega)) hp, nI_or]
  congr 1
  apply Nat.eq_of_testBit_eq
  intro j
  rw [Nat.testBit_or, Nat.testBit_and, pkN_bit h, pkN_bit h', Nat.testBit_mul_two_pow]
  by_cases hj : j < 32
  · rw [hbit i (by omega) j hj]
    by_cases hji : j / 4 = i
    · rw [show decide (¬ j / 4 = i) = false from decide_eq_false (fun q => q hji), Bool.and_false, Bool.false_or, decide_eq_true (show 4 * i ≤ j by omega), Bool.true_and, decide_eq_true (show j / 4 < n by omega), Bool.true_and, show j - 4 * i = j % 4 by omega]
      unfold setS
      rw [if_pos hji]
    · rw [show decide (¬ j / 4 = i) = true from decide_eq_true hji, Bool.and_true]
      have e1 : (decide (4 * i ≤ j) && b.testBit (j - 4 * i)) = false := by
        by_cases hl : 4 * i ≤ j
        · rw [decide_eq_true hl, Bool.true_and]
          refine Nat.testBit_lt_two_pow ?_
          have h2 : 2 ^ 4 ≤ 2 ^ (j - 4 * i) := Nat.pow_le_pow_right (by omega) (by omega)
          omega
        · rw [decide_eq_false hl, Bool.false_and]
      rw [e1, Bool.or_false]
      unfold setS
      rw [if_neg hji]
  · rw [decide_eq_false (show ¬ j / 4 < n by omega), Bool.false_and, Bool.false_and, Bool.false_or, Bool.false_and]
    by_cases hl : 4 * i ≤ j
    · rw [decide_eq_true hl, Bool.true_and]
      refine Nat.testBit_lt_two_pow ?_
      have h2 : 2 ^ 4 ≤ 2 ^ (j - 4 * i) := Nat.pow_le_pow_right (by omega) (by omega)
      omega
    · rw [decide_eq_false hl, Bool.false_and]
def repN : Nat → Nat
  | 0 => 0
  | n + 1 => 2 ^ (4 * n) + repN n
theorem pkN_lat {du : Nat → Nat} {r : Nat} : ∀ {n : Nat}, (∀ k, k < n → r ≤ du k) → pkN du n = pkN (latS r du) n + r * repN n
  | 0, _ => by simp [pkN, repN]
  | n + 1, h => by
    have ih := pkN_lat (du := du) (r := r) (n := n) (fun k hk => h k (by omega))
    have h1 := h n (by omega)
    show 2 ^ (4 * n) * du n + pkN du n = (2 ^ (4 * n) * (du n - r) + pkN (latS r du) n) + r * (2 ^ (4 * n) + repN n)
    have h2 : 2 ^ (4 * n) * du n = 2 ^ (4 * n) * (du n - r) + r * 2 ^ (4 * n) := by
      rw [Nat.mul_comm r, ← Nat.mul_add]
      congr 1
      omega
    rw [h2, Nat.mul_add, ih]
    omega
theorem latP_S {du : Nat → Nat} {n r : Nat} (hn : n ≤ 6) (h : ∀ k, k < n → r ≤ du k) : latP n (nI (pkN du n)) (nI r) = nI (pkN (latS r du) n) := by
  have hM : ∀ q, q < 7 → nI 1118481 &&& ((nI 1 <<< ((nI 4 * nI q) &&& 31)) - nI 1) = nI (repN q) := by decide
  unfold latP
  rw [hM n (by omega), pk_mul, pkN_lat h, pk_sub (by omega)]
  congr 1
  omega
theorem le15_of {n : Nat} {du : Nat → Nat} (h : apart n du) : le15 n du := fun k hk => by
  have := h.1 k hk
  omega
def swpS (du : Nat → Nat) (i j : Nat) : Nat → Nat := setS (setS du i (du j)) j (du i)
theorem exch_S {du : Nat → Nat} {n i j : Nat} (h : le15 n du) (hn : n ≤ 6) (hi : i < n) (hj : j < n) : withP (withP (nI (pkN du n)) (nI i) (dueP (nI (pkN du n)) (nI j))) (nI j) (dueP (nI (pkN du n)) (nI i)) = nI (pkN (swpS du i j) n) := by
  have e1 : dueP (nI (pkN du n)) (nI j) = nI (du j) := gP_S h hn hj
  have e2 : dueP (nI (pkN du n)) (nI i) = nI (du i) := gP_S h hn hi
  rw [e1, e2, withP_S h hn hi (h j hj), withP_S _ hn hj (h i hi)]
  · rfl
  · intro k hk
    unfold setS
    split
    · exact h j hj
    · exact h k hk
theorem apart_swp {du : Nat → Nat} {n i j : Nat} (h : apart n du) (hi : i < n) (hj : j < n) : apart n (swpS du i j) := by
  have hv : ∀ k, swpS du i j k = du (if k = j then i else if k = i then j else k) := by
    intro k
    unfold swpS setS
    split
    · rfl
    · split <;> rfl
  refine ⟨fun k hk => ?_, fun a b ha hb e => ?_⟩
  · rw [hv]
    split
    · exact h.1 i hi
    · split
      · exact h.1 j hj
      · exact h.1 k hk
  · rw [hv, hv] at e
    have e2 := h.2 _ _ (by split; exact hi; split; exact hj; exact ha) (by split; exact hi; split; exact hj; exact hb) e
    by_cases a1 : a = j <;> by_cases a2 : a = i <;> by_cases b1 : b = j <;> by_cases b2 : b = i <;> simp_all
end
section
/-! ===== what every call answers and changes, told once for both ===== -/
/-- an evening: how many deeds; dues, times thrown, the beat ahead of each deed and now -/
abbrev Evn : Type := Nat × (Nat → Nat → Nat) × (Nat → Nat → Nat) × (Nat → Nat)
/-- things, their kinds, the evening, what is kept -/
abbrev Sky : Type := Nat × (Nat → Nat) × Evn × (Nat → Option Evn)
abbrev Txt : Type := (Nat → Int32) × (Nat → Nat → Int32)
abbrev Tld : Type := Int32 × Int32 × (Nat → Int32) × Int64 × Int64
abbrev Sta : Type := Sky × Txt × Txt × Tld
def sR (S : Sta) (R : Txt) : Sta := (S.1, R, S.2.2)
def sX (S : Sta) (T : Txt) : Sta := (S.1, S.2.1, T, S.2.2.2)
def sT (S : Sta) (t : Tld) : Sta := (S.1, S.2.1, S.2.2.1, t)
def sK (S : Sta) (k : Sky) : Sta := (k, S.2)
def tellS (S : Sta) (x : Int32) : Sta := sT S (x, S.2.2.2.2)
def fndS (S : Sta) (f : Nat) : Sta := sT S (S.2.2.2.1, nI f, upd S.2.2.2.2.2.1 f (S.2.2.2.2.2.1 f + nI 1), S.2.2.2.2.2.2)
def upS (S : Sta) (a b : Int64) : Sta := sT S (S.2.2.2.1, S.2.2.2.2.1, S.2.2.2.2.2.1, a, b)
def rz (S : Sta) (r : Nat) : Int32 := S.2.1.1 r
def rc (S : Sta) (r i : Nat) : Int32 := S.2.1.2 r i
def tz (S : Sta) (t : Nat) : Int32 := S.2.2.1.1 t
def tc (S : Sta) (t i : Nat) : Int32 := S.2.2.1.2 t i
def okR (r : Int32) : Bool := in3 r (nI 0) (nI 5)
def okT (t : Int32) : Bool := in3 t (nI 0) (nI 3)
def okH (h : Int32) : Bool := in3 h (nI 1) (nI 7)
def okS (s : Int32) : Bool := in3 s (nI 0) (nI 65535)
/-- the number in an int -/
def nat (x : Int32) : Nat := x.toNatClampNeg
theorem nat_nI {k : Nat} (h : k < 2 ^ 31) : nat (nI k) = k := nI_clamp h
theorem in3_nat {x : Int32} {a b : Nat} (hb : b < 2 ^ 31) (hab : a < 2 ^ 31) (h : in3 x (nI a) (nI b) = true) : ∃ j, a ≤ j ∧ j ≤ b ∧ x = nI j := by
  unfold in3 at h
  rw [Bool.and_eq_true, decide_eq_true_eq, decide_eq_true_eq] at h
  have h0 : ¬ x < 0 := by
    intro q
    have h1 : nI 0 ≤ nI a := nI_le (by omega) hab
    exact absurd (Int32.lt_of_lt_of_le q (Int32.le_trans h1 h.1)) Int32.lt_irrefl
  obtain ⟨j, hj, rfl⟩ := nI_of h0
  exact ⟨j, (nI_leI hab hj).mp h.1, (nI_leI hj hb).mp h.2, rfl⟩
theorem in3_nI {a b j : Nat} (hb : b < 2 ^ 31) (h1 : a ≤ j) (h2 : j ≤ b) : in3 (nI j) (nI a) (nI b) = true := by
  unfold in3
  rw [decide_eq_true (nI_le h1 (by omega)), decide_eq_true (nI_le h2 hb)]
  rfl
/-- sizes: missing, or 0 to m -/
def szOk (m : Nat) (x : Int32) : Prop := x = -nI 1 ∨ ∃ k, k ≤ m ∧ x = nI k
theorem szOk_neg {m : Nat} {x : Int32} (hm : m < 2 ^ 31) (h : szOk m x) : (x = -nI 1 ∧ x < 0 ∧ ¬ 0 ≤ x) ∨ ∃ k, k ≤ m ∧ x = nI k ∧ ¬ x < 0 ∧ 0 ≤ x := by
  rcases h with rfl | ⟨k, hk, rfl⟩
  · exact Or.inl ⟨rfl, by decide, by decide⟩
  · exact Or.inr ⟨k, hk, rfl, nI_pos (by omega), nI_pos' (by omega)⟩
def set2 (f : Nat → Nat → Int32) (r i : Nat) (x : Int32) : Nat → Nat → Int32 := fun a b => if a = r ∧ b = i then x else f a b
def new2 (f : Nat → Nat → Int32) (r n : Nat) (x : Int32) : Nat → Nat → Int32 := fun a b => if a = r ∧ b < n then x else f a b
def spRow (S : Sta) (r n : Int32) : Int32 × Sta := if okR r = false then (-nI 1, S) else if nI 40 < n then (-nI 1, S) else if n < 0 then (-nI 3, fndS S 5) else (n, sR S (upd S.2.1.1 (nat r) n, new2 S.2.1.2 (nat r) (nat n) (nI 0)))
/-- what is wrong about a row, about a place of it -/
def wrR (S : Sta) (r : Int32) (k : Int32 × Sta) : Int32 × Sta := if okR r = false then (-nI 1, S) else if rz S (nat r) < 0 then (-nI 3, fndS S 1) else k
def wrP (S : Sta) (r i : Int32) (k : Int32 × Sta) : Int32 × Sta := wrR S r (if in3 i (nI 0) (rz S (nat r) - nI 1) = false then (-nI 3, fndS S 2) else k)
def spLay (S : Sta) (r i x : Int32) : Int32 × Sta := wrP S r i (nI 1, tellS (sR S (S.2.1.1, set2 S.2.1.2 (nat r) (nat i) x)) (rc S (nat r) (nat i)))
def spAt (S : Sta) (r i : Int32) : Int32 × Sta := wrP S r i (nI 1, tellS S (rc S (nat r) (nat i)))
def spTear (S : Sta) (r : Int32) : Int32 × Sta := wrR S r (nI 1, sR S (upd S.2.1.1 (nat r) (-nI 1), S.2.1.2))
def prtB (z i n : Int32) : Bool := decide (0 ≤ i) && (decide (n ≤ nI 40) && decide (i ≤ z - n))
def cpy2 (f : Nat → Nat → Int32) (r i t j n : Nat) : Nat → Nat → Int32 := fun a b => if a = t ∧ j ≤ b ∧ b < j + n then f r (i + (b - j)) else f a b
def spCopy (S : Sta) (r i t j n : Int32) : Int32 × Sta := if okR r = false then (-nI 1, S) else if okR t = false then (-nI 1, S) else if n < 0 then (-nI 3, fndS S 5) else if rz S (nat r) < 0 then (-nI 3, fndS S 1) else if rz S (nat t) < 0 then (-nI 3, fndS S 1) else if prtB (rz S (nat r)) i n = false then (-nI 3, fndS S 2) else if prtB (rz S (nat t)) j n = false then (-nI 3, fndS S 2) else (nI 1, sR S (S.2.1.1, cpy2 S.2.1.2 (nat r) (nat i) (nat t) (nat j) (nat n)))
def sumL (f : Nat → Int32) : Nat → Int64
  | 0 => lN 0
  | n + 1 => sumL f n + (f n).toInt64
def spMean (S : Sta) (r : Int32) : Int32 × Sta := wrR S r (if rz S (nat r) = 0 then (-nI 3, fndS S 4) else (nI 1, tellS S (sumL (rc S (nat r)) (nat (rz S (nat r))) / (rz S (nat r)).toInt64).toInt32))
def spText (S : Sta) (t n : Int32) : Int32 × Sta := if okT t = false then (-nI 1, S) else if nI 60 < n then (-nI 1, S) else if n < 0 then (-nI 3, fndS S 5) else (n, sX S (upd S.2.2.1.1 (nat t) n, new2 S.2.2.1.2 (nat t) (nat n) (nI 32)))
def wrT (S : Sta) (t : Int32) (k : Int32 × Sta) : Int32 × Sta := if okT t = false then (-nI 1, S) else if tz S (nat t) < 0 then (-nI 3, fndS S 1) else k
def spPut (S : Sta) (t i x : Int32) : Int32 × Sta := wrT S t (if in3 i (nI 0) (tz S (nat t) - nI 1) = false then (-nI 3, fndS S 2) else (tc S (nat t) (nat i) + nI 1000, sX S (S.2.2.1.1, set2 S.2.2.1.2 (nat t) (nat i) x.toInt8.toInt32)))
/-! the reference holds it so -/
def evM (w : Nat → Int32) (o n : Nat) (E : Evn) : Prop := E.1 ≤ 40 ∧ w (o + 533) = nI E.1 ∧ (∀ k, k < n → w (o + k) = nI (E.2.1 E.1 k) ∧ w (o + 6 + k) = nI (E.2.2.1 E.1 k)) ∧ w (o + 12) = nI (E.2.2.2 E.1) ∧ ∀ d, d < E.1 → (∀ k, k < n → w (o + 13 + 13 * d + k) = nI (E.2.1 d k) ∧ w (o + 13 + 13 * d + 6 + k) = nI (E.2.2.1 d k)) ∧ w (o + 13 + 13 * d + 12) = nI (E.2.2.2 d)
def gdE (n : Nat) (E : Evn) : Prop := ∀ d, d ≤ E.1 → apart n (E.2.1 d)
def skyM (I : Nat → Int32) (F : Nat → Nat → Int32) (k : Sky) : Prop := I 2 = nI k.1 ∧ k.1 ≤ 6 ∧ (∀ i, i < k.1 → F 2 i = nI (k.2.1 i) ∧ k.2.1 i < 6) ∧ evM (F 1) 0 k.1 k.2.2.1 ∧ gdE k.1 k.2.2.1 ∧ ∀ q, q < 3 → match k.2.2.2 q with
  | none => F 3 q = -nI 1
  | some E => F 3 q = nI E.1 ∧ evM (F 1) (534 * (q + 1)) k.1 E ∧ gdE k.1 E
def rowM (F : Nat → Nat → Int32) (R : Txt) : Prop := ∀ r, r < 6 → F 5 r = R.1 r ∧ szOk 40 (R.1 r) ∧ ∀ i, i < nat (R.1 r) → F 4 (40 * r + i) = R.2 r i
def txtM (F : Nat → Nat → Int32) (T : Txt) : Prop := ∀ t, t < 4 → F 7 t = T.1 t ∧ szOk 60 (T.1 t) ∧ ∀ i, i < nat (T.1 t) → F 6 (60 * t + i) = T.2 t i
def tldM (I : Nat → Int32) (F : Nat → Nat → Int32) (t : Tld) : Prop := I 8 = t.1 ∧ I 11 = t.2.1 ∧ ∀ f, f < 6 → F 8 f = t.2.2.1 f
def RM (S : Sta) (hp : List Am_C) : Prop := ∃ I F, hp = mH I F S.2.2.2.2.2.2.1 S.2.2.2.2.2.2.2 ∧ skyM I F S.1 ∧ rowM F S.2.1 ∧ txtM F S.2.2.1 ∧ tldM I F S.2.2.2
end
section
/-! ===== the reference's public methods: rows, texts ===== -/
def RMx (I : Nat → Int32) (F : Nat → Nat → Int32) (S : Sta) : Prop := skyM I F S.1 ∧ rowM F S.2.1 ∧ txtM F S.2.2.1 ∧ tldM I F S.2.2.2
theorem RM_fnd {I : Nat → Int32} {F : Nat → Nat → Int32} {S : Sta} (h : RMx I F S) {f : Nat} (hf : f < 6) : RM (fndS S f) (mH (upd I 11 (nI f)) (va_up F 8 (upd (F 8) f (F 8 f + nI 1))) S.2.2.2.2.2.2.1 S.2.2.2.2.2.2.2) := by
  obtain ⟨hs, hr, ht, h8, h11, h12⟩ := h
  refine ⟨_, _, rfl, hs, hr, ht, h8, rfl, fun q hq => ?_⟩
  show upd (F 8) f (F 8 f + nI 1) q = upd S.2.2.2.2.2.1 f (S.2.2.2.2.2.1 f + nI 1) q
  unfold upd
  rw [h12 f hf, h12 q hq]
theorem RM_tell {I : Nat → Int32} {F : Nat → Nat → Int32} {S : Sta} (h : RMx I F S) (x : Int32) : RM (tellS S x) (mH (upd I 8 x) F S.2.2.2.2.2.2.1 S.2.2.2.2.2.2.2) := by
  obtain ⟨hs, hr, ht, h8, h11, h12⟩ := h
  exact ⟨_, _, rfl, hs, hr, ht, rfl, h11, h12⟩
theorem RM_of {I : Nat → Int32} {F : Nat → Nat → Int32} {S : Sta} (h : RMx I F S) : RM S (mH I F S.2.2.2.2.2.2.1 S.2.2.2.2.2.2.2) := ⟨I, F, rfl, h⟩
theorem nat_m1 : nat (-nI 1) = 0 := by decide
theorem nI_idx (m r i : Nat) : nI m * nI r + nI i = nI (m * r + i) := by rw [pk_mul, nI_add]
theorem sz_in {z : Int32} {k i : Nat} (hz : z = nI k) (hk : k < 2 ^ 31) (h : in3 (nI i) (nI 0) (z - nI 1) = true) (hi : i < 2 ^ 31) : i < k := by
  subst hz
  unfold in3 at h
  rw [Bool.and_eq_true, decide_eq_true_eq, decide_eq_true_eq] at h
  rcases Nat.eq_zero_or_pos k with h0 | h0
  · subst h0
    exfalso
    have h1 := Int32.le_trans h.1 h.2
    exact absurd h1 (by decide)
  · rw [pk_sub (by omega)] at h
    have h2 := (nI_leI hi (by omega)).mp h.2
    omega
theorem in3_nat2 {x z : Int32} {k : Nat} (hk : k < 2 ^ 31) (hz : z = nI k) (h : in3 x (nI 0) (z - nI 1) = true) : ∃ i, i < k ∧ x = nI i := by
  have h0 : ¬ x < 0 := by
    unfold in3 at h
    rw [Bool.and_eq_true, decide_eq_true_eq, decide_eq_true_eq] at h
    intro q
    exact absurd (Int32.lt_of_lt_of_le q h.1) Int32.lt_irrefl
  obtain ⟨i, hi, rfl⟩ := nI_of h0
  exact ⟨i, sz_in hz hk h hi, rfl⟩

theorem c_M_wrongPlace_a (I : Nat → Int32) (F : Nat → Nat → Int32) (u v : Int64) (r i : Int32) (h1 : in3 r (nI 0) (nI 5) = false) : Am_Ev false 2 0 0 137 [.ref 0, .int r, .int i] (mH I F u v) (some (.int (-nI 1))) (mH I F u v) := by
  refine am_ev 3 (some .int) false [] ok_M_wrongPlace am_mP_137 (by rw [am_m_137]) (by rw [am_m_137]) (fun h => by cases h) (Nat.le_of_ble_eq_true rfl) ?_
  intro Go hG
  refine hG 200 _ _ _ _ _ _ ?_
  have hc := c_M_isRow (mH I F u v) r
  rw [h1] at hc
  refine Exists.intro 1 (Exists.intro _ (Exists.intro _ ⟨by decide, hc, ?_⟩))
  clear hc
  refine bn_f rfl ?_
  exact ⟨rfl, rfl, rfl, rfl⟩

theorem c_M_wrongPlace_b (I : Nat → Int32) (F : Nat → Nat → Int32) (u v : Int64) (r : Nat) (i : Int32) (h1 : r ≤ 5) (h2 : F 5 r < 0) : Am_Ev false 2 0 0 137 [.ref 0, .int (nI r), .int i] (mH I F u v) (some (.int (-nI 3))) (mH (upd I 11 (nI 1)) (va_up F 8 (upd (F 8) 1 (F 8 1 + nI 1))) u v) := by
  refine am_ev 3 (some .int) false [] ok_M_wrongPlace am_mP_137 (by rw [am_m_137]) (by rw [am_m_137]) (fun h => by cases h) (Nat.le_of_ble_eq_true rfl) ?_
  intro Go hG
  refine hG 200 _ _ _ _ _ _ ?_
  have hc := c_M_isRow (mH I F u v) (nI r)
  rw [in3_nI (by omega) (by omega) h1] at hc
  refine Exists.intro 1 (Exists.intro _ (Exists.intro _ ⟨by decide, hc, ?_⟩))
  clear hc
  refine bn_t (by decide) ?_
  refine Exists.intro r ⟨by omega, rfl, ?_⟩
  refine br_f (Int32.not_le.mpr h2) ?_
  refine Exists.intro 0 (Exists.intro _ (Exists.intro _ ⟨by decide, c_M_found I F u v 1 (by decide), ?_⟩))
  exact ⟨rfl, rfl, rfl, rfl⟩

theorem c_M_wrongPlace_c (I : Nat → Int32) (F : Nat → Nat → Int32) (u v : Int64) (r : Nat) (i : Int32) (h1 : r ≤ 5) (h2 : ¬ F 5 r < 0) (h3 : in3 i (nI 0) (F 5 r - nI 1) = false) : Am_Ev false 2 0 0 137 [.ref 0, .int (nI r), .int i] (mH I F u v) (some (.int (-nI 3))) (mH (upd I 11 (nI 2)) (va_up F 8 (upd (F 8) 2 (F 8 2 + nI 1))) u v) := by
  refine am_ev 3 (some .int) false [] ok_M_wrongPlace am_mP_137 (by rw [am_m_137]) (by rw [am_m_137]) (fun h => by cases h) (Nat.le_of_ble_eq_true rfl) ?_
  intro Go hG
  refine hG 200 _ _ _ _ _ _ ?_
  have hc := c_M_isRow (mH I F u v) (nI r)
  rw [in3_nI (by omega) (by omega) h1] at hc
  refine Exists.intro 1 (Exists.intro _ (Exists.intro _ ⟨by decide, hc, ?_⟩))
  clear hc
  refine bn_t (by decide) ?_
  refine Exists.intro r ⟨by omega, rfl, ?_⟩
  refine br_t (Int32.not_lt.mp h2) ?_
  refine Exists.intro r ⟨by omega, rfl, ?_⟩
  have hc := c_M_in (mH I F u v) i (nI 0) (F 5 r - nI 1)
  rw [h3] at hc
  refine Exists.intro 0 (Exists.intro _ (Exists.intro _ ⟨by decide, hc, ?_⟩))
  clear hc
  refine bn_f rfl ?_
  refine Exists.intro 0 (Exists.intro _ (Exists.intro _ ⟨by decide, c_M_found I F u v 2 (by decide), ?_⟩))
  exact ⟨rfl, rfl, rfl, rfl⟩

theorem c_M_wrongPlace_d (I : Nat → Int32) (F : Nat → Nat → Int32) (u v : Int64) (r : Nat) (i : Int32) (h1 : r ≤ 5) (h2 : ¬ F 5 r < 0) (h3 : in3 i (nI 0) (F 5 r - nI 1) = true) : Am_Ev false 2 0 0 137 [.ref 0, .int (nI r), .int i] (mH I F u v) (some (.int (nI 0))) (mH I F u v) := by
  refine am_ev 3 (some .int) false [] ok_M_wrongPlace am_mP_137 (by rw [am_m_137]) (by rw [am_m_137]) (fun h => by cases h) (Nat.le_of_ble_eq_true rfl) ?_
  intro Go hG
  refine hG 200 _ _ _ _ _ _ ?_
  have hc := c_M_isRow (mH I F u v) (nI r)
  rw [in3_nI (by omega) (by omega) h1] at hc
  refine Exists.intro 1 (Exists.intro _ (Exists.intro _ ⟨by decide, hc, ?_⟩))
  clear hc
  refine bn_t (by decide) ?_
  refine Exists.intro r ⟨by omega, rfl, ?_⟩
  refine br_t (Int32.not_lt.mp h2) ?_
  refine Exists.intro r ⟨by omega, rfl, ?_⟩
  have hc := c_M_in (mH I F u v) i (nI 0) (F 5 r - nI 1)
  rw [h3] at hc
  refine Exists.intro 0 (Exists.intro _ (Exists.intro _ ⟨by decide, hc, ?_⟩))
  clear hc
  refine bn_t (by decide) ?_
  exact ⟨rfl, rfl, rfl, rfl⟩

theorem pm_M_at (S : Sta) (hp : List Am_C) (h : RM S hp) (r i : Int32) : ∃ hp', Am_Ev false 4 0 0 139 [.ref 0, .int r, .int i] hp (some (.int (spAt S r i).1)) hp' ∧ RM (spAt S r i).2 hp' := by
  obtain ⟨I, F, rfl, hx⟩ := h
  obtain ⟨hs, hr, ht, hl⟩ := id hx
  unfold spAt wrP wrR
  cases ho : okR r with
  | false =>
    rw [if_pos rfl]
    refine ⟨_, am_ev 4 (some .int) false [] ok_M_at am_mP_139 (by rw [am_m_139]) (by rw [am_m_139]) (fun h => by cases h) (Nat.le_of_ble_eq_true rfl) (fun Go hG => ?_), RM_of hx⟩
    refine hG 200 _ _ _ _ _ _ ?_
    refine Exists.intro 2 (Exists.intro _ (Exists.intro _ ⟨by decide, c_M_wrongPlace_a I F _ _ r i ho, ?_⟩))
    refine br_f (by decide) ?_
    exact ⟨rfl, rfl, rfl, rfl⟩
  | true =>
    rw [if_neg (by decide)]
    obtain ⟨j, -, hj, rfl⟩ := in3_nat (by decide) (by decide) ho
    rw [nat_nI (by omega)]
    obtain ⟨hr1, hr2, hr3⟩ := hr j (by omega)
    have hr1' : F 5 j = rz S j := hr1
    rcases szOk_neg (by decide) hr2 with ⟨e0, e1, e2⟩ | ⟨k, hk, e0, e1, e2⟩
    · have e1' : rz S j < 0 := e1
      rw [if_pos e1']
      refine ⟨_, am_ev 4 (some .int) false [] ok_M_at am_mP_139 (by rw [am_m_139]) (by rw [am_m_139]) (fun h => by cases h) (Nat.le_of_ble_eq_true rfl) (fun Go hG => ?_), RM_fnd hx (by decide)⟩
      refine hG 200 _ _ _ _ _ _ ?_
      refine Exists.intro 2 (Exists.intro _ (Exists.intro _ ⟨by decide, c_M_wrongPlace_b I F _ _ j i hj (by rw [hr1]; exact e1), ?_⟩))
      refine br_f (by decide) ?_
      exact ⟨rfl, rfl, rfl, rfl⟩
    · have e1' : ¬ rz S j < 0 := e1
      rw [if_neg e1']
      cases hi : in3 i (nI 0) (rz S j - nI 1) with
      | false =>
        rw [if_pos rfl]
        refine ⟨_, am_ev 4 (some .int) false [] ok_M_at am_mP_139 (by rw [am_m_139]) (by rw [am_m_139]) (fun h => by cases h) (Nat.le_of_ble_eq_true rfl) (fun Go hG => ?_), RM_fnd hx (by decide)⟩
        refine hG 200 _ _ _ _ _ _ ?_
        refine Exists.intro 2 (Exists.intro _ (Exists.intro _ ⟨by decide, c_M_wrongPlace_c I F _ _ j i hj (by rw [hr1]; exact e1) (by rw [hr1']; exact hi), ?_⟩))
        refine br_f (by decide) ?_
        exact ⟨rfl, rfl, rfl, rfl⟩
      | true =>
        rw [if_neg (by decide)]
        obtain ⟨q, hq, rfl⟩ := in3_nat2 (k := k) (by omega) e0 hi
        rw [nat_nI (by omega)]
        have hnk : nat (S.2.1.1 j) = k := by
          have e0' : S.2.1.1 j = nI k := e0
          rw [e0', nat_nI (by omega)]
        have hq3 := hr3 q (by rw [hnk]; exact hq)
        refine ⟨_, am_ev 4 (some .int) false [] ok_M_at am_mP_139 (by rw [am_m_139]) (by rw [am_m_139]) (fun h => by cases h) (Nat.le_of_ble_eq_true rfl) (fun Go hG => ?_), RM_tell hx (rc S j q)⟩
        refine hG 200 _ _ _ _ _ _ ?_
        refine Exists.intro 2 (Exists.intro _ (Exists.intro _ ⟨by decide, c_M_wrongPlace_d I F _ _ j (nI q) hj (by rw [hr1]; exact e1) (by rw [hr1']; exact hi), ?_⟩))
        refine br_t (by decide) ?_
        refine Exists.intro (40 * j + q) ⟨by omega, nI_idx 40 j q, ?_⟩
        have hq4 : F 4 (40 * j + q) = rc S j q := hq3
        rw [hq4]
        refine Exists.intro 0 (Exists.intro _ (Exists.intro _ ⟨by decide, c_M_tell I F S.2.2.2.2.2.2.1 S.2.2.2.2.2.2.2 (rc S j q), ?_⟩))
        exact ⟨rfl, rfl, rfl, rfl⟩

theorem pm_M_lay (S : Sta) (hp : List Am_C) (h : RM S hp) (r i x : Int32) : ∃ hp', Am_Ev false 4 0 0 136 [.ref 0, .int r, .int i, .int x] hp (some (.int (spLay S r i x).1)) hp' ∧ RM (spLay S r i x).2 hp' := by
  obtain ⟨I, F, rfl, hx⟩ := h
  obtain ⟨hs, hr, ht, hl⟩ := id hx
  unfold spLay wrP wrR
  cases ho : okR r with
  | false =>
    rw [if_pos rfl]
    refine ⟨_, am_ev 6 (some .int) false [] ok_M_lay am_mP_136 (by rw [am_m_136]) (by rw [am_m_136]) (fun h => by cases h) (Nat.le_of_ble_eq_true rfl) (fun Go hG => ?_), RM_of hx⟩
    refine hG 200 _ _ _ _ _ _ ?_
    refine Exists.intro 2 (Exists.intro _ (Exists.intro _ ⟨by decide, c_M_wrongPlace_a I F _ _ r i ho, ?_⟩))
    refine br_f (by decide) ?_
    exact ⟨rfl, rfl, rfl, rfl⟩
  | true =>
    rw [if_neg (by decide)]
    obtain ⟨j, -, hj, rfl⟩ := in3_nat (by decide) (by decide) ho
    rw [nat_nI (by omega)]
    obtain ⟨hr1, hr2, hr3⟩ := hr j (by omega)
    have hr1' : F 5 j = rz S j := hr1
    rcases szOk_neg (by decide) hr2 with ⟨e0, e1, e2⟩ | ⟨k, hk, e0, e1, e2⟩
    · have e1' : rz S j < 0 := e1
      rw [if_pos e1']
      refine ⟨_, am_ev 6 (some .int) false [] ok_M_lay am_mP_136 (by rw [am_m_136]) (by rw [am_m_136]) (fun h => by cases h) (Nat.le_of_ble_eq_true rfl) (fun Go hG => ?_), RM_fnd hx (by decide)⟩
      refine hG 200 _ _ _ _ _ _ ?_
      refine Exists.intro 2 (Exists.intro _ (Exists.intro _ ⟨by decide, c_M_wrongPlace_b I F _ _ j i hj (by rw [hr1]; exact e1), ?_⟩))
      refine br_f (by decide) ?_
      exact ⟨rfl, rfl, rfl, rfl⟩
    · have e1' : ¬ rz S j < 0 := e1
      rw [if_neg e1']
      cases hi : in3 i (nI 0) (rz S j - nI 1) with
      | false =>
        rw [if_pos rfl]
        refine ⟨_, am_ev 6 (some .int) false [] ok_M_lay am_mP_136 (by rw [am_m_136]) (by rw [am_m_136]) (fun h => by cases h) (Nat.le_of_ble_eq_true rfl) (fun Go hG => ?_), RM_fnd hx (by decide)⟩
        refine hG 200 _ _ _ _ _ _ ?_
        refine Exists.intro 2 (Exists.intro _ (Exists.intro _ ⟨by decide, c_M_wrongPlace_c I F _ _ j i hj (by rw [hr1]; exact e1) (by rw [hr1']; exact hi), ?_⟩))
        refine br_f (by decide) ?_
        exact ⟨rfl, rfl, rfl, rfl⟩
      | true =>
        rw [if_neg (by decide)]
        obtain ⟨q, hq, rfl⟩ := in3_nat2 (k := k) (by omega) e0 hi
        rw [nat_nI (by omega)]
        have hnk : nat (S.2.1.1 j) = k := by
          have e0' : S.2.1.1 j = nI k := e0
          rw [e0', nat_nI (by omega)]
        have hq3 := hr3 q (by rw [hnk]; exact hq)
        have hx2 : RMx I (va_up F 4 (upd (F 4) (40 * j + q) x)) (sR S (S.2.1.1, set2 S.2.1.2 j q x)) := by
          refine ⟨hs, fun a ha => ?_, ht, hl⟩
          obtain ⟨g1, g2, g3⟩ := hr a ha
          refine ⟨g1, g2, fun b hb => ?_⟩
          have hb' : b < nat (S.2.1.1 a) := hb
          have h40 : b < 40 := by
            rcases g2 with g2 | ⟨z, hz, g2⟩
            · rw [g2, nat_m1] at hb'
              omega
            · rw [g2, nat_nI (by omega)] at hb'
              omega
          show upd (F 4) (40 * j + q) x (40 * a + b) = set2 S.2.1.2 j q x a b
          unfold upd set2
          by_cases hab : a = j ∧ b = q
          · rw [if_pos hab, if_pos (by omega)]
          · rw [if_neg hab, if_neg (by omega)]
            exact g3 b hb
        refine ⟨_, am_ev 6 (some .int) false [] ok_M_lay am_mP_136 (by rw [am_m_136]) (by rw [am_m_136]) (fun h => by cases h) (Nat.le_of_ble_eq_true rfl) (fun Go hG => ?_), RM_tell hx2 (rc S j q)⟩
        refine hG 200 _ _ _ _ _ _ ?_
        refine Exists.intro 2 (Exists.intro _ (Exists.intro _ ⟨by decide, c_M_wrongPlace_d I F _ _ j (nI q) hj (by rw [hr1]; exact e1) (by rw [hr1']; exact hi), ?_⟩))
        refine br_t (by decide) ?_
        refine Exists.intro (40 * j + q) ⟨by omega, nI_idx 40 j q, ?_⟩
        refine Exists.intro (40 * j + q) ⟨by omega, nI_idx 40 j q, ?_⟩
        have hq4 : F 4 (40 * j + q) = rc S j q := hq3
        rw [hq4]
        refine Exists.intro 0 (Exists.intro _ (Exists.intro _ ⟨by decide, c_M_tell I (va_up F 4 (upd (F 4) (40 * j + q) x)) S.2.2.2.2.2.2.1 S.2.2.2.2.2.2.2 (rc S j q), ?_⟩))
        exact ⟨rfl, rfl, rfl, rfl⟩

theorem pm_M_tear (S : Sta) (hp : List Am_C) (h : RM S hp) (r : Int32) : ∃ hp', Am_Ev false 4 0 0 140 [.ref 0, .int r] hp (some (.int (spTear S r).1)) hp' ∧ RM (spTear S r).2 hp' := by
  obtain ⟨I, F, rfl, hx⟩ := h
  obtain ⟨hs, hr, ht, hl⟩ := id hx
  unfold spTear wrR
  cases ho : okR r with
  | false =>
    rw [if_pos rfl]
    refine ⟨_, am_ev 2 (some .int) false [] ok_M_tear am_mP_140 (by rw [am_m_140]) (by rw [am_m_140]) (fun h => by cases h) (Nat.le_of_ble_eq_true rfl) (fun Go hG => ?_), RM_of hx⟩
    refine hG 200 _ _ _ _ _ _ ?_
    have hc := c_M_isRow (mH I F S.2.2.2.2.2.2.1 S.2.2.2.2.2.2.2) r
    rw [show in3 r (nI 0) (nI 5) = false from ho] at hc
    refine Exists.intro 1 (Exists.intro _ (Exists.intro _ ⟨by decide, hc, ?_⟩))
    clear hc
    refine bn_f rfl ?_
    exact ⟨rfl, rfl, rfl, rfl⟩
  | true =>
    rw [if_neg (by decide)]
    obtain ⟨j, -, hj, rfl⟩ := in3_nat (by decide) (by decide) ho
    rw [nat_nI (by omega)]
    obtain ⟨hr1, hr2, hr3⟩ := hr j (by omega)
    have hr1' : F 5 j = rz S j := hr1
    rcases szOk_neg (by decide) hr2 with ⟨e0, e1, e2⟩ | ⟨k, hk, e0, e1, e2⟩
    · have e1' : rz S j < 0 := e1
      rw [if_pos e1']
      refine ⟨_, am_ev 2 (some .int) false [] ok_M_tear am_mP_140 (by rw [am_m_140]) (by rw [am_m_140]) (fun h => by cases h) (Nat.le_of_ble_eq_true rfl) (fun Go hG => ?_), RM_fnd hx (by decide)⟩
      refine hG 200 _ _ _ _ _ _ ?_
      have hc := c_M_isRow (mH I F S.2.2.2.2.2.2.1 S.2.2.2.2.2.2.2) (nI j)
      rw [in3_nI (by omega) (by omega) hj] at hc
      refine Exists.intro 1 (Exists.intro _ (Exists.intro _ ⟨by decide, hc, ?_⟩))
      clear hc
      refine bn_t (by decide) ?_
      refine Exists.intro j ⟨by omega, rfl, ?_⟩
      refine br_f (by rw [hr1]; exact e2) ?_
      refine Exists.intro 0 (Exists.intro _ (Exists.intro _ ⟨by decide, c_M_found I F S.2.2.2.2.2.2.1 S.2.2.2.2.2.2.2 1 (by decide), ?_⟩))
      exact ⟨rfl, rfl, rfl, rfl⟩
    · have e1' : ¬ rz S j < 0 := e1
      rw [if_neg e1']
      have hx2 : RMx I (va_up F 5 (upd (F 5) j (-nI 1))) (sR S (upd S.2.1.1 j (-nI 1), S.2.1.2)) := by
        refine ⟨hs, fun a ha => ?_, ht, hl⟩
        obtain ⟨g1, g2, g3⟩ := hr a ha
        show upd (F 5) j (-nI 1) a = upd S.2.1.1 j (-nI 1) a ∧ szOk 40 (upd S.2.1.1 j (-nI 1) a) ∧ ∀ i, i < nat (upd S.2.1.1 j (-nI 1) a) → F 4 (40 * a + i) = S.2.1.2 a i
        unfold upd
        by_cases haj : a = j
        · rw [if_pos haj, if_pos haj]
          exact ⟨rfl, Or.inl rfl, fun i hi => by rw [nat_m1] at hi; omega⟩
        · rw [if_neg haj, if_neg haj]
          exact ⟨g1, g2, g3⟩
      refine ⟨_, am_ev 2 (some .int) false [] ok_M_tear am_mP_140 (by rw [am_m_140]) (by rw [am_m_140]) (fun h => by cases h) (Nat.le_of_ble_eq_true rfl) (fun Go hG => ?_), RM_of hx2⟩
      refine hG 200 _ _ _ _ _ _ ?_
      have hc := c_M_isRow (mH I F S.2.2.2.2.2.2.1 S.2.2.2.2.2.2.2) (nI j)
      rw [in3_nI (by omega) (by omega) hj] at hc
      refine Exists.intro 1 (Exists.intro _ (Exists.intro _ ⟨by decide, hc, ?_⟩))
      clear hc
      refine bn_t (by decide) ?_
      refine Exists.intro j ⟨by omega, rfl, ?_⟩
      refine br_t (by rw [hr1]; exact e2) ?_
      refine Exists.intro j ⟨by omega, rfl, ?_⟩
      exact ⟨rfl, rfl, rfl, rfl⟩
end
section
/-! ===== the reference's public methods: rows, texts (more) ===== -/
theorem fa0 (x : Int32) : x.toInt64 = 0 ↔ x = 0 := by
  constructor
  · intro h
    apply Int32.toInt_inj.mp
    have h1 := congrArg Int64.toInt h
    simpa using h1
  · intro h
    rw [h]
    rfl
theorem rw40 {S : Sta} {F : Nat → Nat → Int32} (hr : rowM F S.2.1) {a b : Nat} (ha : a < 6) (hb : b < nat (S.2.1.1 a)) : b < 40 := by
  rcases (hr a ha).2.1 with g2 | ⟨z, hz, g2⟩
  · rw [g2, nat_m1] at hb
    omega
  · rw [g2, nat_nI (by omega)] at hb
    omega
theorem tx60 {S : Sta} {F : Nat → Nat → Int32} (ht : txtM F S.2.2.1) {a b : Nat} (ha : a < 4) (hb : b < nat (S.2.2.1.1 a)) : b < 60 := by
  rcases (ht a ha).2.1 with g2 | ⟨z, hz, g2⟩
  · rw [g2, nat_m1] at hb
    omega
  · rw [g2, nat_nI (by omega)] at hb
    omega
/-- the first n places from b on are x -/
def fillF (f : Nat → Int32) (b n : Nat) (x : Int32) : Nat → Int32 := fun j => if b ≤ j ∧ j < b + n then x else f j
theorem fillF_s (f : Nat → Int32) (b k : Nat) (x : Int32) : upd (fillF f b k x) (b + k) x = fillF f b (k + 1) x := by
  funext j
  unfold upd fillF
  by_cases h : j = b + k
  · rw [if_pos h, if_pos (by omega)]
  · by_cases h2 : b ≤ j ∧ j < b + k
    · rw [if_neg h, if_pos h2, if_pos (by omega)]
    · rw [if_neg h, if_neg h2, if_neg (by omega)]
theorem fillF_0 (f : Nat → Int32) (b : Nat) (x : Int32) : fillF f b 0 x = f := by
  funext j
  unfold fillF
  rw [if_neg (by omega)]

theorem pm_M_row (S : Sta) (hp : List Am_C) (h : RM S hp) (r n : Int32) : ∃ hp', Am_Ev false 4 0 0 132 [.ref 0, .int r, .int n] hp (some (.int (spRow S r n).1)) hp' ∧ RM (spRow S r n).2 hp' := by
  obtain ⟨I, F, rfl, hx⟩ := h
  obtain ⟨hs, hr, ht, hl⟩ := id hx
  unfold spRow
  cases ho : okR r with
  | false =>
    rw [if_pos rfl]
    refine ⟨_, am_ev 4 (some .int) false [34] ok_M_row am_mP_132 (by rw [am_m_132]) (by rw [am_m_132]) (fun h => by cases h) (Nat.le_of_ble_eq_true rfl) (fun Go hG => ?_), RM_of hx⟩
    refine hG 200 _ _ _ _ _ _ ?_
    have hc := c_M_isRow (mH I F S.2.2.2.2.2.2.1 S.2.2.2.2.2.2.2) r
    rw [show in3 r (nI 0) (nI 5) = false from ho] at hc
    refine Exists.intro 1 (Exists.intro _ (Exists.intro _ ⟨by decide, hc, ?_⟩))
    clear hc
    refine br_t rfl ?_
    exact ⟨rfl, rfl, rfl, rfl⟩
  | true =>
    rw [if_neg (by decide)]
    obtain ⟨j, -, hj, rfl⟩ := in3_nat (by decide) (by decide) ho
    rw [nat_nI (by omega)]
    have hc := c_M_isRow (mH I F S.2.2.2.2.2.2.1 S.2.2.2.2.2.2.2) (nI j)
    rw [in3_nI (by omega) (by omega) hj] at hc
    by_cases h1 : nI 40 < n
    · rw [if_pos h1]
      refine ⟨_, am_ev 4 (some .int) false [34] ok_M_row am_mP_132 (by rw [am_m_132]) (by rw [am_m_132]) (fun h => by cases h) (Nat.le_of_ble_eq_true rfl) (fun Go hG => ?_), RM_of hx⟩
      refine hG 200 _ _ _ _ _ _ ?_
      refine Exists.intro 1 (Exists.intro _ (Exists.intro _ ⟨by decide, hc, ?_⟩))
      refine br_f (by decide) ?_
      refine br_f (Int32.not_le.mpr h1) ?_
      exact ⟨rfl, rfl, rfl, rfl⟩
    · rw [if_neg h1]
      by_cases h2 : n < 0
      · rw [if_pos h2]
        refine ⟨_, am_ev 4 (some .int) false [34] ok_M_row am_mP_132 (by rw [am_m_132]) (by rw [am_m_132]) (fun h => by cases h) (Nat.le_of_ble_eq_true rfl) (fun Go hG => ?_), RM_fnd hx (by decide)⟩
        refine hG 200 _ _ _ _ _ _ ?_
        refine Exists.intro 1 (Exists.intro _ (Exists.intro _ ⟨by decide, hc, ?_⟩))
        refine br_f (by decide) ?_
        refine br_t (Int32.not_lt.mp h1) ?_
        refine br_f (Int32.not_le.mpr h2) ?_
        refine Exists.intro 0 (Exists.intro _ (Exists.intro _ ⟨by decide, c_M_found I F S.2.2.2.2.2.2.1 S.2.2.2.2.2.2.2 5 (by decide), ?_⟩))
        exact ⟨rfl, rfl, rfl, rfl⟩
      · rw [if_neg h2]
        obtain ⟨m, hm0, rfl⟩ := nI_of h2
        have hm : m ≤ 40 := (nI_leI hm0 (by decide)).mp (Int32.not_lt.mp h1)
        rw [nat_nI (by omega)]
        have hx2 : RMx I (va_up (va_up F 5 (upd (F 5) j (nI m))) 4 (fillF (F 4) (40 * j) m (nI 0))) (sR S (upd S.2.1.1 j (nI m), new2 S.2.1.2 j m (nI 0))) := by
          refine ⟨hs, fun a ha => ?_, ht, hl⟩
          obtain ⟨g1, g2, g3⟩ := hr a ha
          show upd (F 5) j (nI m) a = upd S.2.1.1 j (nI m) a ∧ szOk 40 (upd S.2.1.1 j (nI m) a) ∧ ∀ i, i < nat (upd S.2.1.1 j (nI m) a) → fillF (F 4) (40 * j) m (nI 0) (40 * a + i) = new2 S.2.1.2 j m (nI 0) a i
          by_cases haj : a = j
          · subst haj
            have e1 : upd S.2.1.1 a (nI m) a = nI m := pk_us
            rw [e1, pk_us, nat_nI (by omega)]
            refine ⟨rfl, Or.inr ⟨m, hm, rfl⟩, fun i hi => ?_⟩
            unfold fillF new2
            rw [if_pos (by omega), if_pos ⟨rfl, hi⟩]
          · have e1 : upd S.2.1.1 j (nI m) a = S.2.1.1 a := pk_un haj
            rw [e1, pk_un haj]
            refine ⟨g1, g2, fun i hi => ?_⟩
            have h40 := rw40 (S := S) hr ha hi
            unfold fillF new2
            rw [if_neg (by omega), if_neg (fun q => haj q.1)]
            exact g3 i hi
        refine ⟨_, am_ev 4 (some .int) false [34] ok_M_row am_mP_132 (by rw [am_m_132]) (by rw [am_m_132]) (fun h => by cases h) (Nat.le_of_ble_eq_true rfl) (fun Go hG => ?_), RM_of hx2⟩
        have L : ∀ (c k : Nat), k + c = m → Go 34 [some (.ref 0), some (.int (nI j)), some (.int (nI m)), some (.int (nI k))] [] (mH I (va_up (va_up F 5 (upd (F 5) j (nI m))) 4 (fillF (F 4) (40 * j) k (nI 0))) S.2.2.2.2.2.2.1 S.2.2.2.2.2.2.2) 0 0 := by
          intro c
          induction c with
          | zero =>
            intro k hk
            refine hG 200 _ _ _ _ _ _ ?_
            refine br_t (nI_le (by omega) (by omega)) ?_
            have hk : k = m := by omega
            subst hk
            exact ⟨rfl, rfl, rfl, rfl⟩
          | succ c ih =>
            intro k hk
            refine hG 200 _ _ _ _ _ _ ?_
            refine br_f (nI_ge (by omega) (by omega)) ?_
            refine Exists.intro (40 * j + k) ⟨by omega, nI_idx 40 j k, ?_⟩
            have h9 := ih (k + 1) (by omega)
            rw [← nI_s1, ← fillF_s] at h9
            exact h9
        refine hG 200 _ _ _ _ _ _ ?_
        refine Exists.intro 1 (Exists.intro _ (Exists.intro _ ⟨by decide, hc, ?_⟩))
        refine br_f (by decide) ?_
        refine br_t (Int32.not_lt.mp h1) ?_
        refine br_t (nI_pos' (by omega)) ?_
        refine Exists.intro j ⟨by omega, rfl, ?_⟩
        have h9 := L m 0 (by omega)
        rw [fillF_0] at h9
        exact h9

theorem pm_M_text (S : Sta) (hp : List Am_C) (h : RM S hp) (r n : Int32) : ∃ hp', Am_Ev false 4 0 0 144 [.ref 0, .int r, .int n] hp (some (.int (spText S r n).1)) hp' ∧ RM (spText S r n).2 hp' := by
  obtain ⟨I, F, rfl, hx⟩ := h
  obtain ⟨hs, hr, ht, hl⟩ := id hx
  unfold spText
  cases ho : okT r with
  | false =>
    rw [if_pos rfl]
    refine ⟨_, am_ev 4 (some .int) false [34] ok_M_text am_mP_144 (by rw [am_m_144]) (by rw [am_m_144]) (fun h => by cases h) (Nat.le_of_ble_eq_true rfl) (fun Go hG => ?_), RM_of hx⟩
    refine hG 200 _ _ _ _ _ _ ?_
    have hc := c_M_isText (mH I F S.2.2.2.2.2.2.1 S.2.2.2.2.2.2.2) r
    rw [show in3 r (nI 0) (nI 3) = false from ho] at hc
    refine Exists.intro 1 (Exists.intro _ (Exists.intro _ ⟨by decide, hc, ?_⟩))
    clear hc
    refine br_t rfl ?_
    exact ⟨rfl, rfl, rfl, rfl⟩
  | true =>
    rw [if_neg (by decide)]
    obtain ⟨j, -, hj, rfl⟩ := in3_nat (by decide) (by decide) ho
    rw [nat_nI (by omega)]
    have hc := c_M_isText (mH I F S.2.2.2.2.2.2.1 S.2.2.2.2.2.2.2) (nI j)
    rw [in3_nI (by omega) (by omega) hj] at hc
    by_cases h1 : nI 60 < n
    · rw [if_pos h1]
      refine ⟨_, am_ev 4 (some .int) false [34] ok_M_text am_mP_144 (by rw [am_m_144]) (by rw [am_m_144]) (fun h => by cases h) (Nat.le_of_ble_eq_true rfl) (fun Go hG => ?_), RM_of hx⟩
      refine hG 200 _ _ _ _ _ _ ?_
      refine Exists.intro 1 (Exists.intro _ (Exists.intro _ ⟨by decide, hc, ?_⟩))
      refine br_f (by decide) ?_
      refine br_f (Int32.not_le.mpr h1) ?_
      exact ⟨rfl, rfl, rfl, rfl⟩
    · rw [if_neg h1]
      by_cases h2 : n < 0
      · rw [if_pos h2]
        refine ⟨_, am_ev 4 (some .int) false [34] ok_M_text am_mP_144 (by rw [am_m_144]) (by rw [am_m_144]) (fun h => by cases h) (Nat.le_of_ble_eq_true rfl) (fun Go hG => ?_), RM_fnd hx (by decide)⟩
        refine hG 200 _ _ _ _ _ _ ?_
        refine Exists.intro 1 (Exists.intro _ (Exists.intro _ ⟨by decide, hc, ?_⟩))
        refine br_f (by decide) ?_
        refine br_t (Int32.not_lt.mp h1) ?_
        refine br_f (Int32.not_le.mpr h2) ?_
        refine Exists.intro 0 (Exists.intro _ (Exists.intro _ ⟨by decide, c_M_found I F S.2.2.2.2.2.2.1 S.2.2.2.2.2.2.2 5 (by decide), ?_⟩))
        exact ⟨rfl, rfl, rfl, rfl⟩
      · rw [if_neg h2]
        obtain ⟨m, hm0, rfl⟩ := nI_of h2
        have hm : m ≤ 60 := (nI_leI hm0 (by decide)).mp (Int32.not_lt.mp h1)
        rw [nat_nI (by omega)]
        have hx2 : RMx I (va_up (va_up F 7 (upd (F 7) j (nI m))) 6 (fillF (F 6) (60 * j) m (nI 32))) (sX S (upd S.2.2.1.1 j (nI m), new2 S.2.2.1.2 j m (nI 32))) := by
          refine ⟨hs, hr, fun a ha => ?_, hl⟩
          obtain ⟨g1, g2, g3⟩ := ht a ha
          show upd (F 7) j (nI m) a = upd S.2.2.1.1 j (nI m) a ∧ szOk 60 (upd S.2.2.1.1 j (nI m) a) ∧ ∀ i, i < nat (upd S.2.2.1.1 j (nI m) a) → fillF (F 6) (60 * j) m (nI 32) (60 * a + i) = new2 S.2.2.1.2 j m (nI 32) a i
          by_cases haj : a = j
          · subst haj
            have e1 : upd S.2.2.1.1 a (nI m) a = nI m := pk_us
            rw [e1, pk_us, nat_nI (by omega)]
            refine ⟨rfl, Or.inr ⟨m, hm, rfl⟩, fun i hi => ?_⟩
            unfold fillF new2
            rw [if_pos (by omega), if_pos ⟨rfl, hi⟩]
          · have e1 : upd S.2.2.1.1 j (nI m) a = S.2.2.1.1 a := pk_un haj
            rw [e1, pk_un haj]
            refine ⟨g1, g2, fun i hi => ?_⟩
            have h40 := tx60 (S := S) ht ha hi
            unfold fillF new2
            rw [if_neg (by omega), if_neg (fun q => haj q.1)]
            exact g3 i hi
        refine ⟨_, am_ev 4 (some .int) false [34] ok_M_text am_mP_144 (by rw [am_m_144]) (by rw [am_m_144]) (fun h => by cases h) (Nat.le_of_ble_eq_true rfl) (fun Go hG => ?_), RM_of hx2⟩
        have L : ∀ (c k : Nat), k + c = m → Go 34 [some (.ref 0), some (.int (nI j)), some (.int (nI m)), some (.int (nI k))] [] (mH I (va_up (va_up F 7 (upd (F 7) j (nI m))) 6 (fillF (F 6) (60 * j) k (nI 32))) S.2.2.2.2.2.2.1 S.2.2.2.2.2.2.2) 0 0 := by
          intro c
          induction c with
          | zero =>
            intro k hk
            refine hG 200 _ _ _ _ _ _ ?_
            refine br_t (nI_le (by omega) (by omega)) ?_
            have hk : k = m := by omega
            subst hk
            exact ⟨rfl, rfl, rfl, rfl⟩
          | succ c ih =>
            intro k hk
            refine hG 200 _ _ _ _ _ _ ?_
            refine br_f (nI_ge (by omega) (by omega)) ?_
            refine Exists.intro (60 * j + k) ⟨by omega, nI_idx 60 j k, ?_⟩
            have h9 := ih (k + 1) (by omega)
            rw [← nI_s1, ← fillF_s] at h9
            exact h9
        refine hG 200 _ _ _ _ _ _ ?_
        refine Exists.intro 1 (Exists.intro _ (Exists.intro _ ⟨by decide, hc, ?_⟩))
        refine br_f (by decide) ?_
        refine br_t (Int32.not_lt.mp h1) ?_
        refine br_t (nI_pos' (by omega)) ?_
        refine Exists.intro j ⟨by omega, rfl, ?_⟩
        have h9 := L m 0 (by omega)
        rw [fillF_0] at h9
        exact h9

theorem pm_M_put (S : Sta) (hp : List Am_C) (h : RM S hp) (t i x : Int32) : ∃ hp', Am_Ev false 4 0 0 146 [.ref 0, .int t, .int i, .int x] hp (some (.int (spPut S t i x).1)) hp' ∧ RM (spPut S t i x).2 hp' := by
  obtain ⟨I, F, rfl, hx⟩ := h
  obtain ⟨hs, hr, ht, hl⟩ := id hx
  unfold spPut wrT
  cases ho : okT t with
  | false =>
    rw [if_pos rfl]
    refine ⟨_, am_ev 5 (some .int) false [] ok_M_put am_mP_146 (by rw [am_m_146]) (by rw [am_m_146]) (fun h => by cases h) (Nat.le_of_ble_eq_true rfl) (fun Go hG => ?_), RM_of hx⟩
    refine hG 200 _ _ _ _ _ _ ?_
    have hc := c_M_isText (mH I F S.2.2.2.2.2.2.1 S.2.2.2.2.2.2.2) t
    rw [show in3 t (nI 0) (nI 3) = false from ho] at hc
    refine Exists.intro 1 (Exists.intro _ (Exists.intro _ ⟨by decide, hc, ?_⟩))
    clear hc
    refine bn_f rfl ?_
    exact ⟨rfl, rfl, rfl, rfl⟩
  | true =>
    rw [if_neg (by decide)]
    obtain ⟨j, -, hj, rfl⟩ := in3_nat (by decide) (by decide) ho
    rw [nat_nI (by omega)]
    have hc := c_M_isText (mH I F S.2.2.2.2.2.2.1 S.2.2.2.2.2.2.2) (nI j)
    rw [in3_nI (by omega) (by omega) hj] at hc
    obtain ⟨hr1, hr2, hr3⟩ := ht j (by omega)
    have hr1' : F 7 j = tz S j := hr1
    rcases szOk_neg (by decide) hr2 with ⟨e0, e1, e2⟩ | ⟨k, hk, e0, e1, e2⟩
    · have e1' : tz S j < 0 := e1
      rw [if_pos e1']
      refine ⟨_, am_ev 5 (some .int) false [] ok_M_put am_mP_146 (by rw [am_m_146]) (by rw [am_m_146]) (fun h => by cases h) (Nat.le_of_ble_eq_true rfl) (fun Go hG => ?_), RM_fnd hx (by decide)⟩
      refine hG 200 _ _ _ _ _ _ ?_
      refine Exists.intro 1 (Exists.intro _ (Exists.intro _ ⟨by decide, hc, ?_⟩))
      refine bn_t (by decide) ?_
      refine Exists.intro j ⟨by omega, rfl, ?_⟩
      refine br_f (by rw [hr1]; exact e2) ?_
      refine Exists.intro 0 (Exists.intro _ (Exists.intro _ ⟨by decide, c_M_found I F S.2.2.2.2.2.2.1 S.2.2.2.2.2.2.2 1 (by decide), ?_⟩))
      exact ⟨rfl, rfl, rfl, rfl⟩
    · have e1' : ¬ tz S j < 0 := e1
      rw [if_neg e1']
      have hc2 := c_M_in (mH I F S.2.2.2.2.2.2.1 S.2.2.2.2.2.2.2) i (nI 0) (F 7 j - nI 1)
      rw [hr1'] at hc2
      cases hi : in3 i (nI 0) (tz S j - nI 1) with
      | false =>
        rw [if_pos rfl]
        rw [hi, ← hr1'] at hc2
        refine ⟨_, am_ev 5 (some .int) false [] ok_M_put am_mP_146 (by rw [am_m_146]) (by rw [am_m_146]) (fun h => by cases h) (Nat.le_of_ble_eq_true rfl) (fun Go hG => ?_), RM_fnd hx (by decide)⟩
        refine hG 200 _ _ _ _ _ _ ?_
        refine Exists.intro 1 (Exists.intro _ (Exists.intro _ ⟨by decide, hc, ?_⟩))
        refine bn_t (by decide) ?_
        refine Exists.intro j ⟨by omega, rfl, ?_⟩
        refine br_t (by rw [hr1]; exact e2) ?_
        refine Exists.intro j ⟨by omega, rfl, ?_⟩
        refine Exists.intro 0 (Exists.intro _ (Exists.intro _ ⟨by decide, hc2, ?_⟩))
        refine bn_f rfl ?_
        refine Exists.intro 0 (Exists.intro _ (Exists.intro _ ⟨by decide, c_M_found I F S.2.2.2.2.2.2.1 S.2.2.2.2.2.2.2 2 (by decide), ?_⟩))
        exact ⟨rfl, rfl, rfl, rfl⟩
      | true =>
        rw [if_neg (by decide)]
        rw [hi, ← hr1'] at hc2
        obtain ⟨q, hq, rfl⟩ := in3_nat2 (k := k) (by omega) e0 hi
        rw [nat_nI (by omega)]
        have hnk : nat (S.2.2.1.1 j) = k := by
          have e0' : S.2.2.1.1 j = nI k := e0
          rw [e0', nat_nI (by omega)]
        have hq3 : F 6 (60 * j + q) = tc S j q := hr3 q (by rw [hnk]; exact hq)
        have hx2 : RMx I (va_up F 6 (upd (F 6) (60 * j + q) x.toInt8.toInt32.toInt8.toInt32)) (sX S (S.2.2.1.1, set2 S.2.2.1.2 j q x.toInt8.toInt32)) := by
          refine ⟨hs, hr, fun a ha => ?_, hl⟩
          obtain ⟨g1, g2, g3⟩ := ht a ha
          refine ⟨g1, g2, fun b hb => ?_⟩
          have h60 := tx60 (S := S) ht ha hb
          show upd (F 6) (60 * j + q) x.toInt8.toInt32.toInt8.toInt32 (60 * a + b) = set2 S.2.2.1.2 j q x.toInt8.toInt32 a b
          unfold upd set2
          by_cases hab : a = j ∧ b = q
          · rw [if_pos hab, if_pos (by omega)]
            simp
          · rw [if_neg hab, if_neg (by omega)]
            exact g3 b hb
        rw [← hq3]
        refine ⟨_, am_ev 5 (some .int) false [] ok_M_put am_mP_146 (by rw [am_m_146]) (by rw [am_m_146]) (fun h => by cases h) (Nat.le_of_ble_eq_true rfl) (fun Go hG => ?_), RM_of hx2⟩
        refine hG 200 _ _ _ _ _ _ ?_
        refine Exists.intro 1 (Exists.intro _ (Exists.intro _ ⟨by decide, hc, ?_⟩))
        refine bn_t (by decide) ?_
        refine Exists.intro j ⟨by omega, rfl, ?_⟩
        refine br_t (by rw [hr1]; exact e2) ?_
        refine Exists.intro j ⟨by omega, rfl, ?_⟩
        refine Exists.intro 0 (Exists.intro _ (Exists.intro _ ⟨by decide, hc2, ?_⟩))
        refine bn_t (by decide) ?_
        refine Exists.intro (60 * j + q) ⟨by omega, nI_idx 60 j q, ?_⟩
        refine Exists.intro (60 * j + q) ⟨by omega, nI_idx 60 j q, ?_⟩
        exact ⟨rfl, rfl, rfl, rfl⟩

theorem pm_M_mean (S : Sta) (hp : List Am_C) (h : RM S hp) (r : Int32) : ∃ hp', Am_Ev false 4 0 0 143 [.ref 0, .int r] hp (some (.int (spMean S r).1)) hp' ∧ RM (spMean S r).2 hp' := by
  obtain ⟨I, F, rfl, hx⟩ := h
  obtain ⟨hs, hr, ht, hl⟩ := id hx
  unfold spMean wrR
  cases ho : okR r with
  | false =>
    rw [if_pos rfl]
    refine ⟨_, am_ev 5 (some .int) false [44] ok_M_mean am_mP_143 (by rw [am_m_143]) (by rw [am_m_143]) (fun h => by cases h) (Nat.le_of_ble_eq_true rfl) (fun Go hG => ?_), RM_of hx⟩
    refine hG 200 _ _ _ _ _ _ ?_
    have hc := c_M_isRow (mH I F S.2.2.2.2.2.2.1 S.2.2.2.2.2.2.2) r
    rw [show in3 r (nI 0) (nI 5) = false from ho] at hc
    refine Exists.intro 1 (Exists.intro _ (Exists.intro _ ⟨by decide, hc, ?_⟩))
    clear hc
    refine bn_f rfl ?_
    exact ⟨rfl, rfl, rfl, rfl⟩
  | true =>
    rw [if_neg (by decide)]
    obtain ⟨j, -, hj, rfl⟩ := in3_nat (by decide) (by decide) ho
    rw [nat_nI (by omega)]
    have hc := c_M_isRow (mH I F S.2.2.2.2.2.2.1 S.2.2.2.2.2.2.2) (nI j)
    rw [in3_nI (by omega) (by omega) hj] at hc
    obtain ⟨hr1, hr2, hr3⟩ := hr j (by omega)
    have hr1' : F 5 j = rz S j := hr1
    rcases szOk_neg (by decide) hr2 with ⟨e0, e1, e2⟩ | ⟨k, hk, e0, e1, e2⟩
    · have e1' : rz S j < 0 := e1
      rw [if_pos e1']
      refine ⟨_, am_ev 5 (some .int) false [44] ok_M_mean am_mP_143 (by rw [am_m_143]) (by rw [am_m_143]) (fun h => by cases h) (Nat.le_of_ble_eq_true rfl) (fun Go hG => ?_), RM_fnd hx (by decide)⟩
      refine hG 200 _ _ _ _ _ _ ?_
      refine Exists.intro 1 (Exists.intro _ (Exists.intro _ ⟨by decide, hc, ?_⟩))
      refine bn_t (by decide) ?_
      refine Exists.intro j ⟨by omega, rfl, ?_⟩
      refine br_f (by rw [hr1]; exact e2) ?_
      refine Exists.intro 0 (Exists.intro _ (Exists.intro _ ⟨by decide, c_M_found I F S.2.2.2.2.2.2.1 S.2.2.2.2.2.2.2 1 (by decide), ?_⟩))
      exact ⟨rfl, rfl, rfl, rfl⟩
    · have e1' : ¬ rz S j < 0 := e1
      rw [if_neg e1']
      have e0' : rz S j = nI k := e0
      by_cases hz : rz S j = 0
      · rw [if_pos hz]
        refine ⟨_, am_ev 5 (some .int) false [44] ok_M_mean am_mP_143 (by rw [am_m_143]) (by rw [am_m_143]) (fun h => by cases h) (Nat.le_of_ble_eq_true rfl) (fun Go hG => ?_), RM_fnd hx (by decide)⟩
        refine hG 200 _ _ _ _ _ _ ?_
        refine Exists.intro 1 (Exists.intro _ (Exists.intro _ ⟨by decide, hc, ?_⟩))
        refine bn_t (by decide) ?_
        refine Exists.intro j ⟨by omega, rfl, ?_⟩
        refine br_t (by rw [hr1]; exact e2) ?_
        refine Exists.intro j ⟨by omega, rfl, ?_⟩
        refine bn_f (by rw [hr1']; exact hz) ?_
        refine Exists.intro 0 (Exists.intro _ (Exists.intro _ ⟨by decide, c_M_found I F S.2.2.2.2.2.2.1 S.2.2.2.2.2.2.2 4 (by decide), ?_⟩))
        exact ⟨rfl, rfl, rfl, rfl⟩
      · rw [if_neg hz]
        have hnk : nat (rz S j) = k := by rw [e0', nat_nI (by omega)]
        rw [hnk]
        refine ⟨_, am_ev 5 (some .int) false [44] ok_M_mean am_mP_143 (by rw [am_m_143]) (by rw [am_m_143]) (fun h => by cases h) (Nat.le_of_ble_eq_true rfl) (fun Go hG => ?_), RM_tell hx _⟩
        have L : ∀ (c q : Nat), q + c = k → Go 44 [some (.ref 0), some (.int (nI j)), some (.long (sumL (rc S j) q)), none, some (.int (nI q))] [] (mH I F S.2.2.2.2.2.2.1 S.2.2.2.2.2.2.2) 0 0 := by
          intro c
          induction c with
          | zero =>
            intro q hq
            refine hG 200 _ _ _ _ _ _ ?_
            refine Exists.intro j ⟨by omega, rfl, ?_⟩
            refine br_t (by rw [hr1', e0']; exact nI_le (by omega) (by omega)) ?_
            refine Exists.intro j ⟨by omega, rfl, ?_⟩
            rw [hr1']
            have hq : q = k := by omega
            subst hq
            refine And.intro ?_ ?_
            · intro q0
              apply hz
              have q1 := (fa0 (rz S j)).mp q0
              exact q1
            · refine Exists.intro 0 (Exists.intro _ (Exists.intro _ ⟨by decide, c_M_tell I F S.2.2.2.2.2.2.1 S.2.2.2.2.2.2.2 _, ?_⟩))
              exact ⟨rfl, rfl, rfl, rfl⟩
          | succ c ih =>
            intro q hq
            refine hG 200 _ _ _ _ _ _ ?_
            refine Exists.intro j ⟨by omega, rfl, ?_⟩
            refine br_f (by rw [hr1', e0']; exact nI_ge (by omega) (by omega)) ?_
            refine Exists.intro (40 * j + q) ⟨by omega, nI_idx 40 j q, ?_⟩
            have hq3 : F 4 (40 * j + q) = rc S j q := hr3 q (by show q < nat (rz S j); rw [hnk]; omega)
            rw [hq3]
            have h9 := ih (q + 1) (by omega)
            rw [← nI_s1] at h9
            exact h9
        refine hG 200 _ _ _ _ _ _ ?_
        refine Exists.intro 1 (Exists.intro _ (Exists.intro _ ⟨by decide, hc, ?_⟩))
        refine bn_t (by decide) ?_
        refine Exists.intro j ⟨by omega, rfl, ?_⟩
        refine br_t (by rw [hr1]; exact e2) ?_
        refine Exists.intro j ⟨by omega, rfl, ?_⟩
        refine bn_t (by rw [hr1']; exact hz) ?_
        exact L k 0 (by omega)

def spFndg (S : Sta) (f : Int32) : Int32 × Sta := if in3 f (nI 1) (nI 5) = false then (-nI 1, S) else (S.2.2.2.2.2.1 (nat f), S)

theorem pm_M_findings (S : Sta) (hp : List Am_C) (h : RM S hp) (f : Int32) : ∃ hp', Am_Ev false 4 0 0 221 [.ref 0, .int f] hp (some (.int (spFndg S f).1)) hp' ∧ RM (spFndg S f).2 hp' := by
  obtain ⟨I, F, rfl, hx⟩ := h
  obtain ⟨hs, hr, ht, hl⟩ := id hx
  unfold spFndg
  cases ho : in3 f (nI 1) (nI 5) with
  | false =>
    rw [if_pos rfl]
    refine ⟨_, am_ev 2 (some .int) false [] ok_M_findings am_mP_221 (by rw [am_m_221]) (by rw [am_m_221]) (fun h => by cases h) (Nat.le_of_ble_eq_true rfl) (fun Go hG => ?_), RM_of hx⟩
    refine hG 200 _ _ _ _ _ _ ?_
    have hc := c_M_in (mH I F S.2.2.2.2.2.2.1 S.2.2.2.2.2.2.2) f (nI 1) (nI 5)
    rw [ho] at hc
    refine Exists.intro 0 (Exists.intro _ (Exists.intro _ ⟨by decide, hc, ?_⟩))
    clear hc
    refine br_t rfl ?_
    exact ⟨rfl, rfl, rfl, rfl⟩
  | true =>
    rw [if_neg (by decide)]
    obtain ⟨j, hj0, hj, rfl⟩ := in3_nat (by decide) (by decide) ho
    rw [nat_nI (by omega)]
    refine ⟨_, am_ev 2 (some .int) false [] ok_M_findings am_mP_221 (by rw [am_m_221]) (by rw [am_m_221]) (fun h => by cases h) (Nat.le_of_ble_eq_true rfl) (fun Go hG => ?_), RM_of hx⟩
    refine hG 200 _ _ _ _ _ _ ?_
    have hc := c_M_in (mH I F S.2.2.2.2.2.2.1 S.2.2.2.2.2.2.2) (nI j) (nI 1) (nI 5)
    rw [ho] at hc
    refine Exists.intro 0 (Exists.intro _ (Exists.intro _ ⟨by decide, hc, ?_⟩))
    clear hc
    refine br_f (by decide) ?_
    refine Exists.intro j ⟨by omega, rfl, ?_⟩
    exact ⟨by rw [hl.2.2 j (by omega)], rfl, rfl, rfl⟩

theorem pm_M_asked (S : Sta) (hp : List Am_C) (h : RM S hp) : ∃ hp', Am_Ev false 0 0 0 213 [.ref 0] hp (some (.int (S.2.2.2.1))) hp' ∧ RM S hp' := by
  obtain ⟨I, F, rfl, hx⟩ := h
  have h1 := c_M_asked I F S.2.2.2.2.2.2.1 S.2.2.2.2.2.2.2
  rw [hx.2.2.2.1] at h1
  exact ⟨_, h1, RM_of hx⟩

theorem pm_M_finding (S : Sta) (hp : List Am_C) (h : RM S hp) : ∃ hp', Am_Ev false 0 0 0 220 [.ref 0] hp (some (.int (S.2.2.2.2.1))) hp' ∧ RM S hp' := by
  obtain ⟨I, F, rfl, hx⟩ := h
  have h1 := c_M_finding I F S.2.2.2.2.2.2.1 S.2.2.2.2.2.2.2
  rw [hx.2.2.2.2.1] at h1
  exact ⟨_, h1, RM_of hx⟩

theorem pm_M_upper (S : Sta) (hp : List Am_C) (h : RM S hp) : ∃ hp', Am_Ev false 0 0 0 214 [.ref 0] hp (some (.long (S.2.2.2.2.2.2.1))) hp' ∧ RM S hp' := by
  obtain ⟨I, F, rfl, hx⟩ := h
  exact ⟨_, c_M_upper I F S.2.2.2.2.2.2.1 S.2.2.2.2.2.2.2, RM_of hx⟩

theorem pm_M_lower (S : Sta) (hp : List Am_C) (h : RM S hp) : ∃ hp', Am_Ev false 0 0 0 215 [.ref 0] hp (some (.long (S.2.2.2.2.2.2.2))) hp' ∧ RM S hp' := by
  obtain ⟨I, F, rfl, hx⟩ := h
  exact ⟨_, c_M_lower I F S.2.2.2.2.2.2.1 S.2.2.2.2.2.2.2, RM_of hx⟩
end
section
/-! ===== the class: its cells; sheets; rows and texts ===== -/
def rfR : Nat → Option Nat := fun r => if r < 6 then some (18 + 2 * r) else none
def rfT : Nat → Option Nat := fun r => if r < 4 then some (30 + 2 * r) else none
def rfE : Nat → Option Nat := fun r => if r < 3 then some (38 + 5 * r) else none
theorem rfR_at {r : Nat} (h : r < 6) : rfR r = some (18 + 2 * r) := if_pos h
theorem rfT_at {r : Nat} (h : r < 4) : rfT r = some (30 + 2 * r) := if_pos h
theorem rfE_at {r : Nat} (h : r < 3) : rfE r = some (38 + 5 * r) := if_pos h
def cH (I : Nat → Int32) (F : Nat → Nat → Int32) (u v : Int64) : List Am_C := [.inr (0, [.ref 1, .ref 2, .ref 3, .ref 6, .ref 8, .ref 13, .ref 14, .ref 16, .ref 17, .int (I 9), .int (I 10), .long u, .long v]), .inl (2, 6, .inr (.inr (.inr (.inr rfR)))), .inl (2, 4, .inr (.inr (.inr (.inr rfT)))), .inr (5, [.ref 4, .int (I 20)]), .inr (6, [.int (I 21), .ref 5]), .inl (0, 6, .inl (F 5)), .inr (6, [.int (I 22), .ref 7]), .inl (0, 6, .inl (F 7)), .inr (2, [.int (I 30), .int (I 31), .int (I 32), .ref 9, .ref 10, .ref 11, .ref 12]), .inl (0, 6, .inl (F 9)), .inl (0, 40, .inl (F 10)), .inl (0, 40, .inl (F 11)), .inl (0, 40, .inl (F 12)), .inl (3, 3, .inr (.inr (.inr (.inr rfE)))), .inr (3, [.ref 6, .int (I 23), .ref 15, .int (I 24)]), .inl (0, 4, .inl (F 15)), .inr (1, [.ref 6]), .inl (0, 6, .inl (F 17)), .inr (4, [.ref 19, .int (I 60)]), .inl (0, 40, .inl (F 19)), .inr (4, [.ref 21, .int (I 61)]), .inl (0, 40, .inl (F 21)), .inr (4, [.ref 23, .int (I 62)]), .inl (0, 40, .inl (F 23)), .inr (4, [.ref 25, .int (I 63)]), .inl (0, 40, .inl (F 25)), .inr (4, [.ref 27, .int (I 64)]), .inl (0, 40, .inl (F 27)), .inr (4, [.ref 29, .int (I 65)]), .inl (0, 40, .inl (F 29)), .inr (4, [.ref 31, .int (I 70)]), .inl (0, 60, .inl (F 31)), .inr (4, [.ref 33, .int (I 71)]), .inl (0, 60, .inl (F 33)), .inr (4, [.ref 35, .int (I 72)]), .inl (0, 60, .inl (F 35)), .inr (4, [.ref 37, .int (I 73)]), .inl (0, 60, .inl (F 37)), .inr (2, [.int (I 40), .int (I 41), .int (I 42), .ref 39, .ref 40, .ref 41, .ref 42]), .inl (0, 6, .inl (F 39)), .inl (0, 40, .inl (F 40)), .inl (0, 40, .inl (F 41)), .inl (0, 40, .inl (F 42)), .inr (2, [.int (I 43), .int (I 44), .int (I 45), .ref 44, .ref 45, .ref 46, .ref 47]), .inl (0, 6, .inl (F 44)), .inl (0, 40, .inl (F 45)), .inl (0, 40, .inl (F 46)), .inl (0, 40, .inl (F 47)), .inr (2, [.int (I 46), .int (I 47), .int (I 48), .ref 49, .ref 50, .ref 51, .ref 52]), .inl (0, 6, .inl (F 49)), .inl (0, 40, .inl (F 50)), .inl (0, 40, .inl (F 51)), .inl (0, 40, .inl (F 52))]
theorem cH_row {I : Nat → Int32} {F : Nat → Nat → Int32} {u v : Int64} {r : Nat} (h : r < 6) : (cH I F u v)[18 + 2 * r]? = some (.inr (4, [.ref (19 + 2 * r), .int (I (60 + r))])) := by
  rcases (show (r = 0 ∨ r = 1 ∨ r = 2 ∨ r = 3 ∨ r = 4 ∨ r = 5) by omega) with rfl | rfl | rfl | rfl | rfl | rfl <;> rfl
theorem cH_rowc {I : Nat → Int32} {F : Nat → Nat → Int32} {u v : Int64} {r : Nat} (h : r < 6) : (cH I F u v)[19 + 2 * r]? = some (.inl (0, 40, .inl (F (19 + 2 * r)))) := by
  rcases (show (r = 0 ∨ r = 1 ∨ r = 2 ∨ r = 3 ∨ r = 4 ∨ r = 5) by omega) with rfl | rfl | rfl | rfl | rfl | rfl <;> rfl
theorem cH_rows {I : Nat → Int32} {F : Nat → Nat → Int32} {u v : Int64} {r : Nat} (h : r < 6) (x : Int32) : (cH I F u v).set (18 + 2 * r) (.inr (4, [.ref (19 + 2 * r), .int x])) = cH (upd I (60 + r) x) F u v := by
  rcases (show (r = 0 ∨ r = 1 ∨ r = 2 ∨ r = 3 ∨ r = 4 ∨ r = 5) by omega) with rfl | rfl | rfl | rfl | rfl | rfl <;> rfl
theorem cH_rowcs {I : Nat → Int32} {F : Nat → Nat → Int32} {u v : Int64} {r : Nat} (h : r < 6) (g : Nat → Int32) : (cH I F u v).set (19 + 2 * r) (.inl (0, 40, .inl g)) = cH I (va_up F (19 + 2 * r) g) u v := by
  rcases (show (r = 0 ∨ r = 1 ∨ r = 2 ∨ r = 3 ∨ r = 4 ∨ r = 5) by omega) with rfl | rfl | rfl | rfl | rfl | rfl <;> rfl
theorem cH_txt {I : Nat → Int32} {F : Nat → Nat → Int32} {u v : Int64} {r : Nat} (h : r < 4) : (cH I F u v)[30 + 2 * r]? = some (.inr (4, [.ref (31 + 2 * r), .int (I (70 + r))])) := by
  rcases (show (r = 0 ∨ r = 1 ∨ r = 2 ∨ r = 3) by omega) with rfl | rfl | rfl | rfl <;> rfl
theorem cH_txtc {I : Nat → Int32} {F : Nat → Nat → Int32} {u v : Int64} {r : Nat} (h : r < 4) : (cH I F u v)[31 + 2 * r]? = some (.inl (0, 60, .inl (F (31 + 2 * r)))) := by
  rcases (show (r = 0 ∨ r = 1 ∨ r = 2 ∨ r = 3) by omega) with rfl | rfl | rfl | rfl <;> rfl
theorem cH_txts {I : Nat → Int32} {F : Nat → Nat → Int32} {u v : Int64} {r : Nat} (h : r < 4) (x : Int32) : (cH I F u v).set (30 + 2 * r) (.inr (4, [.ref (31 + 2 * r), .int x])) = cH (upd I (70 + r) x) F u v := by
  rcases (show (r = 0 ∨ r = 1 ∨ r = 2 ∨ r = 3) by omega) with rfl | rfl | rfl | rfl <;> rfl
theorem cH_txtcs {I : Nat → Int32} {F : Nat → Nat → Int32} {u v : Int64} {r : Nat} (h : r < 4) (g : Nat → Int32) : (cH I F u v).set (31 + 2 * r) (.inl (0, 60, .inl g)) = cH I (va_up F (31 + 2 * r) g) u v := by
  rcases (show (r = 0 ∨ r = 1 ∨ r = 2 ∨ r = 3) by omega) with rfl | rfl | rfl | rfl <;> rfl
theorem in3_false {x : Int32} {a b : Nat} (ha : a < 2 ^ 31) (hb : b < 2 ^ 31) (h : x.toInt < a ∨ (b : Int) < x.toInt) : in3 x (nI a) (nI b) = false := by
  unfold in3
  rcases h with h | h
  · rw [decide_eq_false, Bool.false_and]
    rw [Int32.le_iff_toInt_le, nI_toInt ha]
    omega
  · rw [show decide (x ≤ nI b) = false from decide_eq_false (by rw [Int32.le_iff_toInt_le, nI_toInt hb]; omega), Bool.and_false]
theorem in3_true {x : Int32} {a b : Nat} (ha : a < 2 ^ 31) (hb : b < 2 ^ 31) (h1 : (a : Int) ≤ x.toInt) (h2 : x.toInt ≤ b) : in3 x (nI a) (nI b) = true := by
  unfold in3
  rw [decide_eq_true (by rw [Int32.le_iff_toInt_le, nI_toInt ha]; exact h1), decide_eq_true (by rw [Int32.le_iff_toInt_le, nI_toInt hb]; exact h2)]
  rfl
theorem lt0 {x : Int32} : x < 0 ↔ x.toInt < 0 := by rw [Int32.lt_iff_toInt_lt]; rfl
theorem geN {x : Int32} {a : Nat} (ha : a < 2 ^ 31) : nI a ≤ x ↔ (a : Int) ≤ x.toInt := by rw [Int32.le_iff_toInt_le, nI_toInt ha]
theorem gtN {x : Int32} {a : Nat} (ha : a < 2 ^ 31) : nI a < x ↔ (a : Int) < x.toInt := by rw [Int32.lt_iff_toInt_lt, nI_toInt ha]
theorem ltN {x : Int32} {a : Nat} (ha : a < 2 ^ 31) : x < nI a ↔ x.toInt < a := by rw [Int32.lt_iff_toInt_lt, nI_toInt ha]

theorem c_T_isRow (hp : List Am_C) (x : Int32) : Am_Ev false 0 0 0 9 [.int x] (hp) (some (.int (b2 (in3 x (nI 0) (nI 5))))) (hp) := by
  refine am_ev 1 (some .boolean) false [] ok_T_isRow am_mP_9 (by rw [am_m_9]) (by rw [am_m_9]) (fun h => by cases h) (Nat.le_of_ble_eq_true rfl) ?_
  intro Go hG
  refine hG 200 _ _ _ _ _ _ ?_
  refine And.intro (fun h1 => ?_) (fun h1 => And.intro (fun h2 => ?_) (fun h2 => ?_))
  · exact ⟨Or.inl rfl, by rw [in3_false (by decide) (by decide) (Or.inl (lt0.mp h1))]; rfl, rfl, rfl, rfl⟩
  · exact ⟨Or.inl rfl, by rw [in3_false (by decide) (by decide) (Or.inr (by have := (geN (by decide)).mp h2; omega))]; rfl, rfl, rfl, rfl⟩
  · exact ⟨Or.inr rfl, by rw [in3_true (by decide) (by decide) (by have : ¬ x.toInt < 0 := fun q => h1 (lt0.mpr q); omega) (by have : ¬ ((6 : Nat) : Int) ≤ x.toInt := fun q => h2 ((geN (a := 6) (by decide)).mpr q); omega)]; rfl, rfl, rfl, rfl⟩

theorem c_T_isText (hp : List Am_C) (x : Int32) : Am_Ev false 0 0 0 24 [.int x] (hp) (some (.int (b2 (in3 x (nI 0) (nI 3))))) (hp) := by
  refine am_ev 1 (some .boolean) false [] ok_T_isText am_mP_24 (by rw [am_m_24]) (by rw [am_m_24]) (fun h => by cases h) (Nat.le_of_ble_eq_true rfl) ?_
  intro Go hG
  refine hG 200 _ _ _ _ _ _ ?_
  refine And.intro (fun h1 => ?_) (fun h1 => And.intro (fun h2 => ?_) (fun h2 => ?_))
  · exact ⟨Or.inl rfl, by rw [in3_false (by decide) (by decide) (Or.inl (lt0.mp h1))]; rfl, rfl, rfl, rfl⟩
  · exact ⟨Or.inl rfl, by rw [in3_false (by decide) (by decide) (Or.inr (by have := (geN (by decide)).mp h2; omega))]; rfl, rfl, rfl, rfl⟩
  · exact ⟨Or.inr rfl, by rw [in3_true (by decide) (by decide) (by have : ¬ x.toInt < 0 := fun q => h1 (lt0.mpr q); omega) (by have : ¬ ((4 : Nat) : Int) ≤ x.toInt := fun q => h2 ((geN (a := 4) (by decide)).mpr q); omega)]; rfl, rfl, rfl, rfl⟩

theorem c_T_isPlaceKept (hp : List Am_C) (x : Int32) : Am_Ev false 0 0 0 70 [.int x] (hp) (some (.int (b2 (in3 x (nI 0) (nI 2))))) (hp) := by
  refine am_ev 1 (some .boolean) false [] ok_T_isPlaceKept am_mP_70 (by rw [am_m_70]) (by rw [am_m_70]) (fun h => by cases h) (Nat.le_of_ble_eq_true rfl) ?_
  intro Go hG
  refine hG 200 _ _ _ _ _ _ ?_
  refine And.intro (fun h1 => ?_) (fun h1 => And.intro (fun h2 => ?_) (fun h2 => ?_))
  · exact ⟨Or.inl rfl, by rw [in3_false (by decide) (by decide) (Or.inl (lt0.mp h1))]; rfl, rfl, rfl, rfl⟩
  · exact ⟨Or.inl rfl, by rw [in3_false (by decide) (by decide) (Or.inr (by have := (geN (by decide)).mp h2; omega))]; rfl, rfl, rfl, rfl⟩
  · exact ⟨Or.inr rfl, by rw [in3_true (by decide) (by decide) (by have : ¬ x.toInt < 0 := fun q => h1 (lt0.mpr q); omega) (by have : ¬ ((3 : Nat) : Int) ≤ x.toInt := fun q => h2 ((geN (a := 3) (by decide)).mpr q); omega)]; rfl, rfl, rfl, rfl⟩

theorem c_T_isHeight (hp : List Am_C) (x : Int32) : Am_Ev false 0 0 0 51 [.int x] (hp) (some (.int (b2 (in3 x (nI 1) (nI 7))))) (hp) := by
  refine am_ev 1 (some .boolean) false [] ok_T_isHeight am_mP_51 (by rw [am_m_51]) (by rw [am_m_51]) (fun h => by cases h) (Nat.le_of_ble_eq_true rfl) ?_
  intro Go hG
  refine hG 200 _ _ _ _ _ _ ?_
  refine And.intro (fun h1 => ?_) (fun h1 => And.intro (fun h2 => ?_) (fun h2 => ?_))
  · exact ⟨Or.inl rfl, by rw [in3_false (by decide) (by decide) (Or.inl ((ltN (by decide)).mp h1))]; rfl, rfl, rfl, rfl⟩
  · exact ⟨Or.inl rfl, by rw [in3_false (by decide) (by decide) (Or.inr ((gtN (by decide)).mp h2))]; rfl, rfl, rfl, rfl⟩
  · exact ⟨Or.inr rfl, by rw [in3_true (by decide) (by decide) (by have : ¬ x.toInt < (1 : Nat) := fun q => h1 ((ltN (by decide)).mpr q); omega) (by have : ¬ ((7 : Nat) : Int) < x.toInt := fun q => h2 ((gtN (a := 7) (by decide)).mpr q); omega)]; rfl, rfl, rfl, rfl⟩

theorem c_T_isSky (hp : List Am_C) (x : Int32) : Am_Ev false 0 0 0 85 [.int x] (hp) (some (.int (b2 (in3 x (nI 0) (nI 65535))))) (hp) := by
  refine am_ev 1 (some .boolean) false [] ok_T_isSky am_mP_85 (by rw [am_m_85]) (by rw [am_m_85]) (fun h => by cases h) (Nat.le_of_ble_eq_true rfl) ?_
  intro Go hG
  refine hG 200 _ _ _ _ _ _ ?_
  refine And.intro (fun h1 => ?_) (fun h1 => And.intro (fun h2 => ?_) (fun h2 => ?_))
  · exact ⟨Or.inl rfl, by rw [in3_false (by decide) (by decide) (Or.inl (lt0.mp h1))]; rfl, rfl, rfl, rfl⟩
  · exact ⟨Or.inl rfl, by rw [in3_false (by decide) (by decide) (Or.inr ((gtN (by decide)).mp h2))]; rfl, rfl, rfl, rfl⟩
  · exact ⟨Or.inr rfl, by rw [in3_true (by decide) (by decide) (by have : ¬ x.toInt < (0 : Nat) := fun q => h1 (lt0.mpr q); omega) (by have : ¬ ((65535 : Nat) : Int) < x.toInt := fun q => h2 ((gtN (a := 65535) (by decide)).mpr q); omega)]; rfl, rfl, rfl, rfl⟩

theorem am_len_of {hp : List Am_C} {h n : Nat} {f : Nat → Int32} {q : Nat → Prop} (e : hp[h]? = some (.inl (0, n, .inl f))) (k : q n) : (match hp[h]? with
    | some (.inl (0, n, .inl _)) => q n
    | some (.inl (t, n, .inr (.inr (.inr (.inr _))))) => am_t (Nat.beq t 2 || Nat.beq t 3) (q n)
    | _ => False) := by
  rw [e]
  exact k
theorem set_same {hp : List Am_C} {h : Nat} {c : Am_C} (e : hp[h]? = some c) : hp.set h c = hp := by
  apply List.ext_getElem?
  intro j
  by_cases hj : h = j
  · subst hj
    rw [am_set_at e, e]
  · rw [List.getElem?_set_ne hj]

theorem c_S_isMissing (hp : List Am_C) (h c : Nat) (z : Int32) (e : hp[h]? = some (.inr (4, [.ref c, .int z]))) : Am_Ev false 0 0 0 15 [.ref h] (hp) (some (.int (b2 (decide (z < 0))))) (hp) := by
  refine am_ev 1 (some .boolean) false [] ok_S_isMissing am_mP_15 (by rw [am_m_15]) (by rw [am_m_15]) (fun h => by cases h) (Nat.le_of_ble_eq_true rfl) ?_
  intro Go hG
  refine hG 200 _ _ _ _ _ _ ?_
  refine am_ob_of e ?_
  refine And.intro (fun h1 => ?_) (fun h1 => ?_)
  · exact ⟨Or.inl rfl, by rw [decide_eq_false (Int32.not_lt.mpr h1)]; rfl, rfl, rfl, rfl⟩
  · exact ⟨Or.inr rfl, by rw [decide_eq_true (Int32.not_le.mp h1)]; rfl, rfl, rfl, rfl⟩

def hasI (z i : Int32) : Bool := decide (¬ i < 0) && decide (i < z)
theorem c_S_has (hp : List Am_C) (h c : Nat) (z : Int32) (e : hp[h]? = some (.inr (4, [.ref c, .int z]))) (i : Int32) : Am_Ev false 0 0 0 16 [.ref h, .int i] (hp) (some (.int (b2 (hasI z i)))) (hp) := by
  refine am_ev 2 (some .boolean) false [] ok_S_has am_mP_16 (by rw [am_m_16]) (by rw [am_m_16]) (fun h => by cases h) (Nat.le_of_ble_eq_true rfl) ?_
  intro Go hG
  refine hG 200 _ _ _ _ _ _ ?_
  refine And.intro (fun h1 => ?_) (fun h1 => am_ob_of e (And.intro (fun h2 => ?_) (fun h2 => ?_)))
  · exact ⟨Or.inl rfl, by unfold hasI; rw [decide_eq_false (fun q => q h1)]; rfl, rfl, rfl, rfl⟩
  · exact ⟨Or.inl rfl, by unfold hasI; rw [show decide (i < z) = false from decide_eq_false (Int32.not_lt.mpr h2), Bool.and_false]; rfl, rfl, rfl, rfl⟩
  · exact ⟨Or.inr rfl, by unfold hasI; rw [decide_eq_true h1, decide_eq_true (Int32.not_le.mp h2)]; rfl, rfl, rfl, rfl⟩

def hprI (z i n : Int32) : Bool := decide (¬ i < 0) && (decide (¬ n < 0) && (decide (n ≤ z) && decide (i ≤ z - n)))
theorem c_S_hasPart (hp : List Am_C) (h c : Nat) (z : Int32) (e : hp[h]? = some (.inr (4, [.ref c, .int z]))) (i n : Int32) : Am_Ev false 0 0 0 21 [.ref h, .int i, .int n] (hp) (some (.int (b2 (hprI z i n)))) (hp) := by
  refine am_ev 3 (some .boolean) false [] ok_S_hasPart am_mP_21 (by rw [am_m_21]) (by rw [am_m_21]) (fun h => by cases h) (Nat.le_of_ble_eq_true rfl) ?_
  intro Go hG
  refine hG 200 _ _ _ _ _ _ ?_
  refine And.intro (fun h1 => ?_) (fun h1 => And.intro (fun h2 => ?_) (fun h2 => am_ob_of e (And.intro (fun h3 => ?_) (fun h3 => am_ob_of e (And.intro (fun h4 => ?_) (fun h4 => ?_))))))
  · exact ⟨Or.inl rfl, by unfold hprI; rw [decide_eq_false (fun q => q h1)]; rfl, rfl, rfl, rfl⟩
  · exact ⟨Or.inl rfl, by unfold hprI; rw [decide_eq_true h1, decide_eq_false (fun q => q h2)]; rfl, rfl, rfl, rfl⟩
  · exact ⟨Or.inl rfl, by unfold hprI; rw [decide_eq_true h1, decide_eq_true h2, decide_eq_false (Int32.not_le.mpr h3)]; rfl, rfl, rfl, rfl⟩
  · exact ⟨Or.inl rfl, by unfold hprI; rw [decide_eq_true h1, decide_eq_true h2, decide_eq_true (Int32.not_lt.mp h3), decide_eq_false (Int32.not_le.mpr h4)]; rfl, rfl, rfl, rfl⟩
  · exact ⟨Or.inr rfl, by unfold hprI; rw [decide_eq_true h1, decide_eq_true h2, decide_eq_true (Int32.not_lt.mp h3), decide_eq_true (Int32.not_lt.mp h4)]; rfl, rfl, rfl, rfl⟩

theorem c_S_begin (hp : List Am_C) (h c : Nat) (z : Int32) (e : hp[h]? = some (.inr (4, [.ref c, .int z]))) (len n : Nat) (f : Nat → Int32) (x : Int32) (hc : h ≠ c) (e2 : hp[c]? = some (.inl (0, len, .inl f))) (hl : len ≤ 4096) (hn : n ≤ len) : Am_Ev false 1 0 0 11 [.ref h, .int (nI n), .int x] (hp) (none) ((hp.set h (.inr (4, [.ref c, .int (nI n)]))).set c (.inl (0, len, .inl (fillF f 0 n x)))) := by
  refine am_ev 4 none false [14, 19] ok_S_begin am_mP_11 (by rw [am_m_11]) (by rw [am_m_11]) (fun h => by cases h) (Nat.le_of_ble_eq_true rfl) ?_
  intro Go hG
  have hlb : Nat.ble len 4096 = true := Nat.ble_eq_true_of_le hl
  have ee : (hp.set h (.inr (4, [.ref c, .int (nI n)])))[h]? = some (.inr (4, [.ref c, .int (nI n)])) := am_set_at e
  have e3 : (hp.set h (.inr (4, [.ref c, .int (nI n)])))[c]? = some (.inl (0, len, .inl f)) := am_set_ne hc e2
  have L : ∀ (j k : Nat), k + j = n → Go 19 [some (.ref h), some (.int (nI n)), some (.int x), some (.int (nI k))] [] ((hp.set h (.inr (4, [.ref c, .int (nI n)]))).set c (.inl (0, len, .inl (fillF f 0 k x)))) 0 0 := by
    intro j
    induction j with
    | zero =>
      intro k hk
      have e5 : ((hp.set h (.inr (4, [.ref c, .int (nI n)]))).set c (.inl (0, len, .inl (fillF f 0 k x))))[h]? = some (.inr (4, [.ref c, .int (nI n)])) := am_set_ne (Ne.symm hc) ee
      refine hG 200 _ _ _ _ _ _ ?_
      refine am_ob_of e5 ?_
      refine br_t (nI_le (by omega) (by omega)) ?_
      have hk : k = n := by omega
      subst hk
      exact ⟨rfl, rfl, rfl, rfl⟩
    | succ j ih =>
      intro k hk
      have e5 : ((hp.set h (.inr (4, [.ref c, .int (nI n)]))).set c (.inl (0, len, .inl (fillF f 0 k x))))[h]? = some (.inr (4, [.ref c, .int (nI n)])) := am_set_ne (Ne.symm hc) ee
      have e6 : ((hp.set h (.inr (4, [.ref c, .int (nI n)]))).set c (.inl (0, len, .inl (fillF f 0 k x))))[c]? = some (.inl (0, len, .inl (fillF f 0 k x))) := am_set_at e3
      refine hG 200 _ _ _ _ _ _ ?_
      refine am_ob_of e5 ?_
      refine br_f (nI_ge (by omega) (by omega)) ?_
      refine am_ob_of e5 ?_
      refine am_ai_of e6 hlb ?_
      refine Exists.intro k ⟨by omega, rfl, ?_⟩
      have h9 := ih (k + 1) (by omega)
      have e7 := fillF_s f 0 k x
      rw [Nat.zero_add] at e7
      rw [← nI_s1, ← e7] at h9
      rw [List.set_set]
      exact h9
  refine hG 200 _ _ _ _ _ _ ?_
  refine am_ob_of e ?_
  refine am_len_of e2 ?_
  have hmin : (if nI len < nI n then nI len else nI n) = nI n := if_neg (nI_nlt hn (by omega))
  have hmax : (if nI 0 < nI n then nI n else nI 0) = nI n := by
    rcases Nat.eq_zero_or_pos n with h0 | h0
    · rw [h0]; rfl
    · exact if_pos (nI_lt h0 (by omega))
  show Go 14 [some (.ref h), some (.int (nI n)), some (.int x), none] [.int (if nI 0 < (if nI len < nI n then nI len else nI n) then (if nI len < nI n then nI len else nI n) else nI 0), .ref h] hp 0 0
  rw [hmin, hmax]
  refine hG 200 _ _ _ _ _ _ ?_
  refine am_ob_of e ?_
  have h9 := L n 0 (by omega)
  rw [fillF_0, set_same e3] at h9
  exact h9
end
section
/-! ===== the class holds it so; its rows and texts ===== -/
def evC (d b m : Int32) (tt da th bk : Nat → Int32) (n : Nat) (E : Evn) : Prop := E.1 ≤ 40 ∧ m = nI E.1 ∧ d = nI (pkN (E.2.1 E.1) n) ∧ b = nI (E.2.2.2 E.1) ∧ (∀ i, i < 6 → tt i = nI (E.2.2.1 E.1 i)) ∧ (∀ q, q ≤ E.1 → ∀ i, n ≤ i → i < 6 → E.2.2.1 q i = 0) ∧ ∀ q, q < E.1 → da q = nI (pkN (E.2.1 q) n) ∧ (∃ bb, bk q = nI bb ∧ E.2.2.2 (q + 1) = E.2.2.2 q + bb) ∧ ((th q = -nI 9 ∧ ∀ i, i < 6 → E.2.2.1 (q + 1) i = E.2.2.1 q i) ∨ ∃ t, t < n ∧ th q = nI t ∧ ∀ i, i < 6 → E.2.2.1 (q + 1) i = E.2.2.1 q i + (if i = t then 1 else 0))
def skyC (I : Nat → Int32) (F : Nat → Nat → Int32) (k : Sky) : Prop := I 22 = nI k.1 ∧ k.1 ≤ 6 ∧ (∀ i, i < k.1 → F 7 i = nI (k.2.1 i) ∧ k.2.1 i < 6) ∧ evC (I 30) (I 31) (I 32) (F 9) (F 10) (F 11) (F 12) k.1 k.2.2.1 ∧ gdE k.1 k.2.2.1 ∧ ∀ q, q < 3 → match k.2.2.2 q with
  | none => I (42 + 3 * q) = -nI 1
  | some E => evC (I (40 + 3 * q)) (I (41 + 3 * q)) (I (42 + 3 * q)) (F (39 + 5 * q)) (F (40 + 5 * q)) (F (41 + 5 * q)) (F (42 + 5 * q)) k.1 E ∧ gdE k.1 E
def rowC (I : Nat → Int32) (F : Nat → Nat → Int32) (R : Txt) : Prop := ∀ r, r < 6 → I (60 + r) = R.1 r ∧ szOk 40 (R.1 r) ∧ ∀ i, i < nat (R.1 r) → F (19 + 2 * r) i = R.2 r i
def txtC (I : Nat → Int32) (F : Nat → Nat → Int32) (T : Txt) : Prop := ∀ t, t < 4 → I (70 + t) = T.1 t ∧ szOk 60 (T.1 t) ∧ ∀ i, i < nat (T.1 t) → F (31 + 2 * t) i = T.2 t i
def tldC (I : Nat → Int32) (F : Nat → Nat → Int32) (t : Tld) : Prop := I 10 = t.1 ∧ I 9 = t.2.1 ∧ ∀ f, f < 6 → F 17 f = t.2.2.1 f
def RCx (I : Nat → Int32) (F : Nat → Nat → Int32) (S : Sta) : Prop := skyC I F S.1 ∧ rowC I F S.2.1 ∧ txtC I F S.2.2.1 ∧ tldC I F S.2.2.2
def RC (S : Sta) (hp : List Am_C) : Prop := ∃ I F, hp = cH I F S.2.2.2.2.2.2.1 S.2.2.2.2.2.2.2 ∧ RCx I F S
theorem RC_of {I : Nat → Int32} {F : Nat → Nat → Int32} {S : Sta} (h : RCx I F S) : RC S (cH I F S.2.2.2.2.2.2.1 S.2.2.2.2.2.2.2) := ⟨I, F, rfl, h⟩
/-- the parts stay where what they look at stays -/
theorem skyC_congr {I I' : Nat → Int32} {F F' : Nat → Nat → Int32} {k : Sky} (h : skyC I F k) (hI : ∀ j, (22 ≤ j ∧ j < 52) → I' j = I j) (hF : ∀ j, j = 7 ∨ (9 ≤ j ∧ j ≤ 12) ∨ 39 ≤ j → F' j = F j) : skyC I' F' k := by
  obtain ⟨h1, h2, h3, h4, h5, h6⟩ := h
  refine ⟨by rw [hI 22 (by omega)]; exact h1, h2, fun i hi => by rw [hF 7 (by omega)]; exact h3 i hi, ?_, h5, fun q hq => ?_⟩
  · rw [hI 30 (by omega), hI 31 (by omega), hI 32 (by omega), hF 9 (by omega), hF 10 (by omega), hF 11 (by omega), hF 12 (by omega)]
    exact h4
  · have h7 := h6 q hq
    rw [hI (40 + 3 * q) (by omega), hI (41 + 3 * q) (by omega), hI (42 + 3 * q) (by omega), hF (39 + 5 * q) (by omega), hF (40 + 5 * q) (by omega), hF (41 + 5 * q) (by omega), hF (42 + 5 * q) (by omega)]
    exact h7
theorem rowC_congr {I I' : Nat → Int32} {F F' : Nat → Nat → Int32} {R : Txt} (h : rowC I F R) (hI : ∀ j, j < 6 → I' (60 + j) = I (60 + j)) (hF : ∀ j, j < 6 → F' (19 + 2 * j) = F (19 + 2 * j)) : rowC I' F' R := by
  intro r hr
  rw [hI r hr, hF r hr]
  exact h r hr
theorem txtC_congr {I I' : Nat → Int32} {F F' : Nat → Nat → Int32} {R : Txt} (h : txtC I F R) (hI : ∀ j, j < 4 → I' (70 + j) = I (70 + j)) (hF : ∀ j, j < 4 → F' (31 + 2 * j) = F (31 + 2 * j)) : txtC I' F' R := by
  intro r hr
  rw [hI r hr, hF r hr]
  exact h r hr
theorem RC_fnd {I : Nat → Int32} {F : Nat → Nat → Int32} {S : Sta} (h : RCx I F S) {f : Nat} (hf : f < 6) : RC (fndS S f) (cH (upd I 9 (nI f)) (va_up F 17 (upd (F 17) f (F 17 f + nI 1))) S.2.2.2.2.2.2.1 S.2.2.2.2.2.2.2) := by
  obtain ⟨hs, hr, ht, h8, h11, h12⟩ := h
  refine ⟨_, _, rfl, skyC_congr hs (fun j hj => pk_un (by omega)) (fun j hj => va_up_ne _ _ (by omega)), rowC_congr hr (fun j hj => pk_un (by omega)) (fun j hj => va_up_ne _ _ (by omega)), txtC_congr ht (fun j hj => pk_un (by omega)) (fun j hj => va_up_ne _ _ (by omega)), h8, rfl, fun q hq => ?_⟩
  show upd (F 17) f (F 17 f + nI 1) q = upd S.2.2.2.2.2.1 f (S.2.2.2.2.2.1 f + nI 1) q
  unfold upd
  rw [h12 f hf, h12 q hq]
theorem RC_tell {I : Nat → Int32} {F : Nat → Nat → Int32} {S : Sta} (h : RCx I F S) (x : Int32) : RC (tellS S x) (cH (upd I 10 x) F S.2.2.2.2.2.2.1 S.2.2.2.2.2.2.2) := by
  obtain ⟨hs, hr, ht, h8, h11, h12⟩ := h
  exact ⟨_, _, rfl, skyC_congr hs (fun j hj => pk_un (by omega)) (fun j hj => rfl), rowC_congr hr (fun j hj => pk_un (by omega)) (fun j hj => rfl), txtC_congr ht (fun j hj => pk_un (by omega)) (fun j hj => rfl), rfl, h11, h12⟩
theorem hasI_in3 {k : Nat} {i : Int32} (hk : k ≤ 1000) : hasI (nI k) i = in3 i (nI 0) (nI k - nI 1) := by
  unfold hasI in3
  have e : (nI k - nI 1).toInt = (k : Int) - 1 := pk_sub_toInt (by omega) (by omega)
  have e2 : decide (¬ i < 0) = decide (nI 0 ≤ i) := by
    apply decide_eq_decide.mpr
    exact Int32.not_lt
  have e3 : decide (i < nI k) = decide (i ≤ nI k - nI 1) := by
    apply decide_eq_decide.mpr
    rw [Int32.lt_iff_toInt_lt, Int32.le_iff_toInt_le, e, nI_toInt (by omega)]
    omega
  rw [e2, e3]

theorem c_T_tell (I : Nat → Int32) (F : Nat → Nat → Int32) (u v : Int64) (x : Int32) : Am_Ev false 0 0 0 17 [.ref 0, .int x] (cH I F u v) (some (.int (nI 1))) (cH (upd I 10 x) F u v) := by
  refine am_ev 2 (some .int) false [] ok_T_tell am_mP_17 (by rw [am_m_17]) (by rw [am_m_17]) (fun h => by cases h) (Nat.le_of_ble_eq_true rfl) ?_
  intro Go hG
  refine hG 200 _ _ _ _ _ _ ?_
  exact ⟨rfl, rfl, rfl, rfl⟩

theorem c_T_found (I : Nat → Int32) (F : Nat → Nat → Int32) (u v : Int64) (x : Nat) (hx : x < 6) : Am_Ev false 0 0 0 10 [.ref 0, .int (nI x)] (cH I F u v) (some (.int (-nI 3))) (cH (upd I 9 (nI x)) (va_up F 17 (upd (F 17) x (F 17 x + nI 1))) u v) := by
  refine am_ev 2 (some .int) false [] ok_T_found am_mP_10 (by rw [am_m_10]) (by rw [am_m_10]) (fun h => by cases h) (Nat.le_of_ble_eq_true rfl) ?_
  intro Go hG
  refine hG 200 _ _ _ _ _ _ ?_
  refine Exists.intro x ⟨hx, rfl, ?_⟩
  refine Exists.intro x ⟨hx, rfl, ?_⟩
  exact ⟨rfl, rfl, rfl, rfl⟩

theorem c_T_refusalOfRow_a (I : Nat → Int32) (F : Nat → Nat → Int32) (u v : Int64) (r : Int32) (h1 : in3 r (nI 0) (nI 5) = false) : Am_Ev false 1 0 0 14 [.ref 0, .int r] (cH I F u v) (some (.int (-nI 1))) (cH I F u v) := by
  refine am_ev 2 (some .int) false [] ok_T_refusalOfRow am_mP_14 (by rw [am_m_14]) (by rw [am_m_14]) (fun h => by cases h) (Nat.le_of_ble_eq_true rfl) ?_
  intro Go hG
  have hc := c_T_isRow (cH I F u v) r
  rw [h1] at hc
  refine hG 200 _ _ _ _ _ _ ?_
  refine Exists.intro 0 (Exists.intro _ (Exists.intro _ ⟨by decide, hc, ?_⟩))
  refine bn_f rfl ?_
  exact ⟨rfl, rfl, rfl, rfl⟩

theorem c_T_refusalOfRow_b (I : Nat → Int32) (F : Nat → Nat → Int32) (u v : Int64) (r : Nat) (h1 : r ≤ 5) (h2 : I (60 + r) < 0) : Am_Ev false 1 0 0 14 [.ref 0, .int (nI r)] (cH I F u v) (some (.int (-nI 3))) (cH (upd I 9 (nI 1)) (va_up F 17 (upd (F 17) 1 (F 17 1 + nI 1))) u v) := by
  refine am_ev 2 (some .int) false [] ok_T_refusalOfRow am_mP_14 (by rw [am_m_14]) (by rw [am_m_14]) (fun h => by cases h) (Nat.le_of_ble_eq_true rfl) ?_
  intro Go hG
  have hc := c_T_isRow (cH I F u v) (nI r)
  rw [in3_nI (by omega) (by omega) h1] at hc
  refine hG 200 _ _ _ _ _ _ ?_
  refine Exists.intro 0 (Exists.intro _ (Exists.intro _ ⟨by decide, hc, ?_⟩))
  refine bn_t (by decide) ?_
  refine Exists.intro r (Exists.intro (18 + 2 * r) ⟨by omega, rfl, rfR_at (by omega), ?_⟩)
  refine am_vt (cH_row (by omega)) rfl ?_
  have hm := c_S_isMissing (cH I F u v) (18 + 2 * r) _ _ (cH_row (by omega))
  
  rw [decide_eq_true h2] at hm
  refine Exists.intro 0 (Exists.intro _ (Exists.intro _ ⟨by decide, hm, ?_⟩))
  refine br_f (by decide) ?_
  refine Exists.intro 0 (Exists.intro _ (Exists.intro _ ⟨by decide, c_T_found I F u v 1 (by decide), ?_⟩))
  exact ⟨rfl, rfl, rfl, rfl⟩

theorem c_T_refusalOfRow_d (I : Nat → Int32) (F : Nat → Nat → Int32) (u v : Int64) (r : Nat) (h1 : r ≤ 5) (h2 : ¬ I (60 + r) < 0) : Am_Ev false 1 0 0 14 [.ref 0, .int (nI r)] (cH I F u v) (some (.int (nI 0))) (cH I F u v) := by
  refine am_ev 2 (some .int) false [] ok_T_refusalOfRow am_mP_14 (by rw [am_m_14]) (by rw [am_m_14]) (fun h => by cases h) (Nat.le_of_ble_eq_true rfl) ?_
  intro Go hG
  have hc := c_T_isRow (cH I F u v) (nI r)
  rw [in3_nI (by omega) (by omega) h1] at hc
  refine hG 200 _ _ _ _ _ _ ?_
  refine Exists.intro 0 (Exists.intro _ (Exists.intro _ ⟨by decide, hc, ?_⟩))
  refine bn_t (by decide) ?_
  refine Exists.intro r (Exists.intro (18 + 2 * r) ⟨by omega, rfl, rfR_at (by omega), ?_⟩)
  refine am_vt (cH_row (by omega)) rfl ?_
  have hm := c_S_isMissing (cH I F u v) (18 + 2 * r) _ _ (cH_row (by omega))
  
  rw [decide_eq_false h2] at hm
  refine Exists.intro 0 (Exists.intro _ (Exists.intro _ ⟨by decide, hm, ?_⟩))
  refine br_t rfl ?_
  exact ⟨rfl, rfl, rfl, rfl⟩

theorem c_T_refusalOfText_a (I : Nat → Int32) (F : Nat → Nat → Int32) (u v : Int64) (r : Int32) (h1 : in3 r (nI 0) (nI 3) = false) : Am_Ev false 1 0 0 26 [.ref 0, .int r] (cH I F u v) (some (.int (-nI 1))) (cH I F u v) := by
  refine am_ev 2 (some .int) false [] ok_T_refusalOfText am_mP_26 (by rw [am_m_26]) (by rw [am_m_26]) (fun h => by cases h) (Nat.le_of_ble_eq_true rfl) ?_
  intro Go hG
  have hc := c_T_isText (cH I F u v) r
  rw [h1] at hc
  refine hG 200 _ _ _ _ _ _ ?_
  refine Exists.intro 0 (Exists.intro _ (Exists.intro _ ⟨by decide, hc, ?_⟩))
  refine bn_f rfl ?_
  exact ⟨rfl, rfl, rfl, rfl⟩

theorem c_T_refusalOfText_b (I : Nat → Int32) (F : Nat → Nat → Int32) (u v : Int64) (r : Nat) (h1 : r ≤ 3) (h2 : I (70 + r) < 0) : Am_Ev false 1 0 0 26 [.ref 0, .int (nI r)] (cH I F u v) (some (.int (-nI 3))) (cH (upd I 9 (nI 1)) (va_up F 17 (upd (F 17) 1 (F 17 1 + nI 1))) u v) := by
  refine am_ev 2 (some .int) false [] ok_T_refusalOfText am_mP_26 (by rw [am_m_26]) (by rw [am_m_26]) (fun h => by cases h) (Nat.le_of_ble_eq_true rfl) ?_
  intro Go hG
  have hc := c_T_isText (cH I F u v) (nI r)
  rw [in3_nI (by omega) (by omega) h1] at hc
  refine hG 200 _ _ _ _ _ _ ?_
  refine Exists.intro 0 (Exists.intro _ (Exists.intro _ ⟨by decide, hc, ?_⟩))
  refine bn_t (by decide) ?_
  refine Exists.intro r (Exists.intro (30 + 2 * r) ⟨by omega, rfl, rfT_at (by omega), ?_⟩)
  refine am_vt (cH_txt (by omega)) rfl ?_
  have hm := c_S_isMissing (cH I F u v) (30 + 2 * r) _ _ (cH_txt (by omega))
  
  rw [decide_eq_true h2] at hm
  refine Exists.intro 0 (Exists.intro _ (Exists.intro _ ⟨by decide, hm, ?_⟩))
  refine br_f (by decide) ?_
  refine Exists.intro 0 (Exists.intro _ (Exists.intro _ ⟨by decide, c_T_found I F u v 1 (by decide), ?_⟩))
  exact ⟨rfl, rfl, rfl, rfl⟩

theorem c_T_refusalOfText_d (I : Nat → Int32) (F : Nat → Nat → Int32) (u v : Int64) (r : Nat) (h1 : r ≤ 3) (h2 : ¬ I (70 + r) < 0) : Am_Ev false 1 0 0 26 [.ref 0, .int (nI r)] (cH I F u v) (some (.int (nI 0))) (cH I F u v) := by
  refine am_ev 2 (some .int) false [] ok_T_refusalOfText am_mP_26 (by rw [am_m_26]) (by rw [am_m_26]) (fun h => by cases h) (Nat.le_of_ble_eq_true rfl) ?_
  intro Go hG
  have hc := c_T_isText (cH I F u v) (nI r)
  rw [in3_nI (by omega) (by omega) h1] at hc
  refine hG 200 _ _ _ _ _ _ ?_
  refine Exists.intro 0 (Exists.intro _ (Exists.intro _ ⟨by decide, hc, ?_⟩))
  refine bn_t (by decide) ?_
  refine Exists.intro r (Exists.intro (30 + 2 * r) ⟨by omega, rfl, rfT_at (by omega), ?_⟩)
  refine am_vt (cH_txt (by omega)) rfl ?_
  have hm := c_S_isMissing (cH I F u v) (30 + 2 * r) _ _ (cH_txt (by omega))
  
  rw [decide_eq_false h2] at hm
  refine Exists.intro 0 (Exists.intro _ (Exists.intro _ ⟨by decide, hm, ?_⟩))
  refine br_t rfl ?_
  exact ⟨rfl, rfl, rfl, rfl⟩

theorem c_T_refusalOfPlace_a (I : Nat → Int32) (F : Nat → Nat → Int32) (u v : Int64) (r i : Int32) (h1 : in3 r (nI 0) (nI 5) = false) : Am_Ev false 2 0 0 13 [.ref 0, .int r, .int i] (cH I F u v) (some (.int (-nI 1))) (cH I F u v) := by
  refine am_ev 4 (some .int) false [] ok_T_refusalOfPlace am_mP_13 (by rw [am_m_13]) (by rw [am_m_13]) (fun h => by cases h) (Nat.le_of_ble_eq_true rfl) ?_
  intro Go hG
  refine hG 200 _ _ _ _ _ _ ?_
  refine Exists.intro 1 (Exists.intro _ (Exists.intro _ ⟨by decide, c_T_refusalOfRow_a I F u v r h1, ?_⟩))
  refine br_f (by decide) ?_
  exact ⟨rfl, rfl, rfl, rfl⟩

theorem c_T_refusalOfPlace_b (I : Nat → Int32) (F : Nat → Nat → Int32) (u v : Int64) (r : Nat) (i : Int32) (h1 : r ≤ 5) (h2 : I (60 + r) < 0) : Am_Ev false 2 0 0 13 [.ref 0, .int (nI r), .int i] (cH I F u v) (some (.int (-nI 3))) (cH (upd I 9 (nI 1)) (va_up F 17 (upd (F 17) 1 (F 17 1 + nI 1))) u v) := by
  refine am_ev 4 (some .int) false [] ok_T_refusalOfPlace am_mP_13 (by rw [am_m_13]) (by rw [am_m_13]) (fun h => by cases h) (Nat.le_of_ble_eq_true rfl) ?_
  intro Go hG
  refine hG 200 _ _ _ _ _ _ ?_
  refine Exists.intro 1 (Exists.intro _ (Exists.intro _ ⟨by decide, c_T_refusalOfRow_b I F u v r h1 h2, ?_⟩))
  refine br_f (by decide) ?_
  exact ⟨rfl, rfl, rfl, rfl⟩

theorem c_T_refusalOfPlace_c (I : Nat → Int32) (F : Nat → Nat → Int32) (u v : Int64) (r : Nat) (i : Int32) (h1 : r ≤ 5) (h2 : ¬ I (60 + r) < 0) (h3 : hasI (I (60 + r)) i = false) : Am_Ev false 2 0 0 13 [.ref 0, .int (nI r), .int i] (cH I F u v) (some (.int (-nI 3))) (cH (upd I 9 (nI 2)) (va_up F 17 (upd (F 17) 2 (F 17 2 + nI 1))) u v) := by
  refine am_ev 4 (some .int) false [] ok_T_refusalOfPlace am_mP_13 (by rw [am_m_13]) (by rw [am_m_13]) (fun h => by cases h) (Nat.le_of_ble_eq_true rfl) ?_
  intro Go hG
  refine hG 200 _ _ _ _ _ _ ?_
  refine Exists.intro 1 (Exists.intro _ (Exists.intro _ ⟨by decide, c_T_refusalOfRow_d I F u v r h1 h2, ?_⟩))
  refine br_t rfl ?_
  refine Exists.intro r (Exists.intro (18 + 2 * r) ⟨by omega, rfl, rfR_at (by omega), ?_⟩)
  refine am_vt (cH_row (by omega)) rfl ?_
  have hm := c_S_has (cH I F u v) (18 + 2 * r) _ _ (cH_row (by omega)) i
  rw [h3] at hm
  refine Exists.intro 0 (Exists.intro _ (Exists.intro _ ⟨by decide, hm, ?_⟩))
  refine br_t rfl ?_
  refine Exists.intro 0 (Exists.intro _ (Exists.intro _ ⟨by decide, c_T_found I F u v 2 (by decide), ?_⟩))
  exact ⟨rfl, rfl, rfl, rfl⟩

theorem c_T_refusalOfPlace_d (I : Nat → Int32) (F : Nat → Nat → Int32) (u v : Int64) (r : Nat) (i : Int32) (h1 : r ≤ 5) (h2 : ¬ I (60 + r) < 0) (h3 : hasI (I (60 + r)) i = true) : Am_Ev false 2 0 0 13 [.ref 0, .int (nI r), .int i] (cH I F u v) (some (.int (nI 0))) (cH I F u v) := by
  refine am_ev 4 (some .int) false [] ok_T_refusalOfPlace am_mP_13 (by rw [am_m_13]) (by rw [am_m_13]) (fun h => by cases h) (Nat.le_of_ble_eq_true rfl) ?_
  intro Go hG
  refine hG 200 _ _ _ _ _ _ ?_
  refine Exists.intro 1 (Exists.intro _ (Exists.intro _ ⟨by decide, c_T_refusalOfRow_d I F u v r h1 h2, ?_⟩))
  refine br_t rfl ?_
  refine Exists.intro r (Exists.intro (18 + 2 * r) ⟨by omega, rfl, rfR_at (by omega), ?_⟩)
  refine am_vt (cH_row (by omega)) rfl ?_
  have hm := c_S_has (cH I F u v) (18 + 2 * r) _ _ (cH_row (by omega)) i
  rw [h3] at hm
  refine Exists.intro 0 (Exists.intro _ (Exists.intro _ ⟨by decide, hm, ?_⟩))
  refine br_f (by decide) ?_
  exact ⟨rfl, rfl, rfl, rfl⟩

theorem pc_T_at (S : Sta) (hp : List Am_C) (h : RC S hp) (r i : Int32) : ∃ hp', Am_Ev false 6 0 0 18 [.ref 0, .int r, .int i] hp (some (.int (spAt S r i).1)) hp' ∧ RC (spAt S r i).2 hp' := by
  obtain ⟨I, F, rfl, hx⟩ := h
  obtain ⟨hs, hr, ht, hl⟩ := id hx
  unfold spAt wrP wrR
  cases ho : okR r with
  | false =>
    rw [if_pos rfl]
    refine ⟨_, am_ev 4 (some .int) false [] ok_T_at am_mP_18 (by rw [am_m_18]) (by rw [am_m_18]) (fun h => by cases h) (Nat.le_of_ble_eq_true rfl) (fun Go hG => ?_), RC_of hx⟩
    refine hG 200 _ _ _ _ _ _ ?_
    refine Exists.intro 2 (Exists.intro _ (Exists.intro _ ⟨by decide, c_T_refusalOfPlace_a I F _ _ r i ho, ?_⟩))
    refine br_f (by decide) ?_
    exact ⟨rfl, rfl, rfl, rfl⟩
  | true =>
    rw [if_neg (by decide)]
    obtain ⟨j, -, hj, rfl⟩ := in3_nat (by decide) (by decide) ho
    rw [nat_nI (by omega)]
    obtain ⟨hr1, hr2, hr3⟩ := hr j (by omega)
    have hr1' : I (60 + j) = rz S j := hr1
    rcases szOk_neg (by decide) hr2 with ⟨e0, e1, e2⟩ | ⟨k, hk, e0, e1, e2⟩
    · have e1' : rz S j < 0 := e1
      rw [if_pos e1']
      refine ⟨_, am_ev 4 (some .int) false [] ok_T_at am_mP_18 (by rw [am_m_18]) (by rw [am_m_18]) (fun h => by cases h) (Nat.le_of_ble_eq_true rfl) (fun Go hG => ?_), RC_fnd hx (by decide)⟩
      refine hG 200 _ _ _ _ _ _ ?_
      refine Exists.intro 2 (Exists.intro _ (Exists.intro _ ⟨by decide, c_T_refusalOfPlace_b I F _ _ j i hj (by rw [hr1]; exact e1), ?_⟩))
      refine br_f (by decide) ?_
      exact ⟨rfl, rfl, rfl, rfl⟩
    · have e1' : ¬ rz S j < 0 := e1
      rw [if_neg e1']
      have e0' : rz S j = nI k := e0
      have hhas : hasI (I (60 + j)) i = in3 i (nI 0) (rz S j - nI 1) := by rw [hr1', e0']; exact hasI_in3 (by omega)
      cases hi : in3 i (nI 0) (rz S j - nI 1) with
      | false =>
        rw [if_pos rfl]
        refine ⟨_, am_ev 4 (some .int) false [] ok_T_at am_mP_18 (by rw [am_m_18]) (by rw [am_m_18]) (fun h => by cases h) (Nat.le_of_ble_eq_true rfl) (fun Go hG => ?_), RC_fnd hx (by decide)⟩
        refine hG 200 _ _ _ _ _ _ ?_
        refine Exists.intro 2 (Exists.intro _ (Exists.intro _ ⟨by decide, c_T_refusalOfPlace_c I F _ _ j i hj (by rw [hr1]; exact e1) (by rw [hhas]; exact hi), ?_⟩))
        refine br_f (by decide) ?_
        exact ⟨rfl, rfl, rfl, rfl⟩
      | true =>
        rw [if_neg (by decide)]
        have hok := c_T_refusalOfPlace_d I F S.2.2.2.2.2.2.1 S.2.2.2.2.2.2.2 j i hj (by rw [hr1]; exact e1) (by rw [hhas]; exact hi)
        obtain ⟨q, hq, rfl⟩ := in3_nat2 (k := k) (by omega) e0 hi
        rw [nat_nI (by omega)]
        have hnk : nat (S.2.1.1 j) = k := by
          have e0' : S.2.1.1 j = nI k := e0
          rw [e0', nat_nI (by omega)]
        have hq3 : F (19 + 2 * j) q = rc S j q := hr3 q (by rw [hnk]; exact hq)
        refine ⟨_, am_ev 4 (some .int) false [] ok_T_at am_mP_18 (by rw [am_m_18]) (by rw [am_m_18]) (fun h => by cases h) (Nat.le_of_ble_eq_true rfl) (fun Go hG => ?_), RC_tell hx (rc S j q)⟩
        refine hG 200 _ _ _ _ _ _ ?_
        refine Exists.intro 2 (Exists.intro _ (Exists.intro _ ⟨by decide, hok, ?_⟩))
        refine br_t rfl ?_
        refine Exists.intro j (Exists.intro (18 + 2 * j) ⟨by omega, rfl, rfR_at (by omega), ?_⟩)
        refine am_ob_of (cH_row (by omega)) ?_
        refine am_ai_of (cH_rowc (by omega)) rfl ?_
        refine Exists.intro q ⟨by omega, rfl, ?_⟩
        rw [hq3]
        refine Exists.intro 0 (Exists.intro _ (Exists.intro _ ⟨by decide, c_T_tell I F S.2.2.2.2.2.2.1 S.2.2.2.2.2.2.2 (rc S j q), ?_⟩))
        exact ⟨rfl, rfl, rfl, rfl⟩

theorem pc_T_lay (S : Sta) (hp : List Am_C) (h : RC S hp) (r i x : Int32) : ∃ hp', Am_Ev false 6 0 0 12 [.ref 0, .int r, .int i, .int x] hp (some (.int (spLay S r i x).1)) hp' ∧ RC (spLay S r i x).2 hp' := by
  obtain ⟨I, F, rfl, hx⟩ := h
  obtain ⟨hs, hr, ht, hl⟩ := id hx
  unfold spLay wrP wrR
  cases ho : okR r with
  | false =>
    rw [if_pos rfl]
    refine ⟨_, am_ev 6 (some .int) false [] ok_T_lay am_mP_12 (by rw [am_m_12]) (by rw [am_m_12]) (fun h => by cases h) (Nat.le_of_ble_eq_true rfl) (fun Go hG => ?_), RC_of hx⟩
    refine hG 200 _ _ _ _ _ _ ?_
    refine Exists.intro 2 (Exists.intro _ (Exists.intro _ ⟨by decide, c_T_refusalOfPlace_a I F _ _ r i ho, ?_⟩))
    refine br_f (by decide) ?_
    exact ⟨rfl, rfl, rfl, rfl⟩
  | true =>
    rw [if_neg (by decide)]
    obtain ⟨j, -, hj, rfl⟩ := in3_nat (by decide) (by decide) ho
    rw [nat_nI (by omega)]
    obtain ⟨hr1, hr2, hr3⟩ := hr j (by omega)
    have hr1' : I (60 + j) = rz S j := hr1
    rcases szOk_neg (by decide) hr2 with ⟨e0, e1, e2⟩ | ⟨k, hk, e0, e1, e2⟩
    · have e1' : rz S j < 0 := e1
      rw [if_pos e1']
      refine ⟨_, am_ev 6 (some .int) false [] ok_T_lay am_mP_12 (by rw [am_m_12]) (by rw [am_m_12]) (fun h => by cases h) (Nat.le_of_ble_eq_true rfl) (fun Go hG => ?_), RC_fnd hx (by decide)⟩
      refine hG 200 _ _ _ _ _ _ ?_
      refine Exists.intro 2 (Exists.intro _ (Exists.intro _ ⟨by decide, c_T_refusalOfPlace_b I F _ _ j i hj (by rw [hr1]; exact e1), ?_⟩))
      refine br_f (by decide) ?_
      exact ⟨rfl, rfl, rfl, rfl⟩
    · have e1' : ¬ rz S j < 0 := e1
      rw [if_neg e1']
      have e0' : rz S j = nI k := e0
      have hhas : hasI (I (60 + j)) i = in3 i (nI 0) (rz S j - nI 1) := by rw [hr1', e0']; exact hasI_in3 (by omega)
      cases hi : in3 i (nI 0) (rz S j - nI 1) with
      | false =>
        rw [if_pos rfl]
        refine ⟨_, am_ev 6 (some .int) false [] ok_T_lay am_mP_12 (by rw [am_m_12]) (by rw [am_m_12]) (fun h => by cases h) (Nat.le_of_ble_eq_true rfl) (fun Go hG => ?_), RC_fnd hx (by decide)⟩
        refine hG 200 _ _ _ _ _ _ ?_
        refine Exists.intro 2 (Exists.intro _ (Exists.intro _ ⟨by decide, c_T_refusalOfPlace_c I F _ _ j i hj (by rw [hr1]; exact e1) (by rw [hhas]; exact hi), ?_⟩))
        refine br_f (by decide) ?_
        exact ⟨rfl, rfl, rfl, rfl⟩
      | true =>
        rw [if_neg (by decide)]
        have hok := c_T_refusalOfPlace_d I F S.2.2.2.2.2.2.1 S.2.2.2.2.2.2.2 j i hj (by rw [hr1]; exact e1) (by rw [hhas]; exact hi)
        obtain ⟨q, hq, rfl⟩ := in3_nat2 (k := k) (by omega) e0 hi
        rw [nat_nI (by omega)]
        have hnk : nat (S.2.1.1 j) = k := by
          have e0' : S.2.1.1 j = nI k := e0
          rw [e0', nat_nI (by omega)]
        have hq3 : F (19 + 2 * j) q = rc S j q := hr3 q (by rw [hnk]; exact hq)
        have hx2 : RCx I (va_up F (19 + 2 * j) (upd (F (19 + 2 * j)) q x)) (sR S (S.2.1.1, set2 S.2.1.2 j q x)) := by
          refine ⟨skyC_congr hs (fun _ _ => rfl) (fun z hz => va_up_ne _ _ (by omega)), fun a ha => ?_, txtC_congr ht (fun _ _ => rfl) (fun z hz => va_up_ne _ _ (by omega)), hl.1, hl.2.1, ?_⟩
          · obtain ⟨g1, g2, g3⟩ := hr a ha
            refine ⟨g1, g2, fun b hb => ?_⟩
            show va_up F (19 + 2 * j) (upd (F (19 + 2 * j)) q x) (19 + 2 * a) b = set2 S.2.1.2 j q x a b
            by_cases haj : a = j
            · subst haj
              rw [va_up_self]
              unfold upd set2
              by_cases hab : b = q
              · rw [if_pos hab, if_pos ⟨rfl, hab⟩]
              · rw [if_neg hab, if_neg (fun z => hab z.2)]
                exact g3 b hb
            · rw [va_up_ne _ _ (by omega)]
              unfold set2
              rw [if_neg (fun z => haj z.1)]
              exact g3 b hb
          · intro f hf
            rw [va_up_ne _ _ (by omega)]
            exact hl.2.2 f hf
        refine ⟨_, am_ev 6 (some .int) false [41] ok_T_lay am_mP_12 (by rw [am_m_12]) (by rw [am_m_12]) (fun h => by cases h) (Nat.le_of_ble_eq_true rfl) (fun Go hG => ?_), RC_tell hx2 (rc S j q)⟩
        refine hG 200 _ _ _ _ _ _ ?_
        refine Exists.intro 2 (Exists.intro _ (Exists.intro _ ⟨by decide, hok, ?_⟩))
        refine br_t rfl ?_
        refine Exists.intro j (Exists.intro (18 + 2 * j) ⟨by omega, rfl, rfR_at (by omega), ?_⟩)
        refine am_ob_of (cH_row (by omega)) ?_
        refine am_ai_of (cH_rowc (by omega)) rfl ?_
        refine Exists.intro q ⟨by omega, rfl, ?_⟩
        refine Exists.intro j (Exists.intro (18 + 2 * j) ⟨by omega, rfl, rfR_at (by omega), ?_⟩)
        refine am_ob_of (cH_row (by omega)) ?_
        refine am_ai_of (cH_rowc (by omega)) rfl ?_
        refine Exists.intro q ⟨by omega, rfl, ?_⟩
        rw [hq3]
        show Go 41 [some (.ref 0), some (.int (nI j)), some (.int (nI q)), some (.int x), some (.int (nI 0)), some (.int (rc S j q))] [] ((cH I F S.2.2.2.2.2.2.1 S.2.2.2.2.2.2.2).set (19 + 2 * j) (.inl (0, 40, .inl (upd (F (19 + 2 * j)) q x)))) 0 0
        rw [cH_rowcs (by omega)]
        refine hG 200 _ _ _ _ _ _ ?_
        refine Exists.intro 0 (Exists.intro _ (Exists.intro _ ⟨by decide, c_T_tell I (va_up F (19 + 2 * j) (upd (F (19 + 2 * j)) q x)) S.2.2.2.2.2.2.1 S.2.2.2.2.2.2.2 (rc S j q), ?_⟩))
        exact ⟨rfl, rfl, rfl, rfl⟩
end
section
/-! ===== the class: rows and texts (more) ===== -/
theorem rwC40 {S : Sta} {I : Nat → Int32} {F : Nat → Nat → Int32} (hr : rowC I F S.2.1) {a b : Nat} (ha : a < 6) (hb : b < nat (S.2.1.1 a)) : b < 40 := by
  rcases (hr a ha).2.1 with g2 | ⟨z, hz, g2⟩
  · rw [g2, nat_m1] at hb
    omega
  · rw [g2, nat_nI (by omega)] at hb
    omega

theorem pc_T_row (S : Sta) (hp : List Am_C) (h : RC S hp) (r n : Int32) : ∃ hp', Am_Ev false 6 0 0 8 [.ref 0, .int r, .int n] hp (some (.int (spRow S r n).1)) hp' ∧ RC (spRow S r n).2 hp' := by
  obtain ⟨I, F, rfl, hx⟩ := h
  obtain ⟨hs, hr, ht, hl⟩ := id hx
  unfold spRow
  cases ho : okR r with
  | false =>
    rw [if_pos rfl]
    have hc := c_T_isRow (cH I F S.2.2.2.2.2.2.1 S.2.2.2.2.2.2.2) r
    rw [show in3 r (nI 0) (nI 5) = false from ho] at hc
    refine ⟨_, am_ev 3 (some .int) false [] ok_T_row am_mP_8 (by rw [am_m_8]) (by rw [am_m_8]) (fun h => by cases h) (Nat.le_of_ble_eq_true rfl) (fun Go hG => ?_), RC_of hx⟩
    refine hG 200 _ _ _ _ _ _ ?_
    refine Exists.intro 0 (Exists.intro _ (Exists.intro _ ⟨by decide, hc, ?_⟩))
    refine br_t rfl ?_
    exact ⟨rfl, rfl, rfl, rfl⟩
  | true =>
    rw [if_neg (by decide)]
    obtain ⟨j, -, hj, rfl⟩ := in3_nat (by decide) (by decide) ho
    rw [nat_nI (by omega)]
    have hc := c_T_isRow (cH I F S.2.2.2.2.2.2.1 S.2.2.2.2.2.2.2) (nI j)
    rw [in3_nI (by omega) (by omega) hj] at hc
    by_cases h1 : nI 40 < n
    · rw [if_pos h1]
      refine ⟨_, am_ev 3 (some .int) false [] ok_T_row am_mP_8 (by rw [am_m_8]) (by rw [am_m_8]) (fun h => by cases h) (Nat.le_of_ble_eq_true rfl) (fun Go hG => ?_), RC_of hx⟩
      refine hG 200 _ _ _ _ _ _ ?_
      refine Exists.intro 0 (Exists.intro _ (Exists.intro _ ⟨by decide, hc, ?_⟩))
      refine br_f (by decide) ?_
      refine br_f (Int32.not_le.mpr h1) ?_
      exact ⟨rfl, rfl, rfl, rfl⟩
    · rw [if_neg h1]
      by_cases h2 : n < 0
      · rw [if_pos h2]
        refine ⟨_, am_ev 3 (some .int) false [] ok_T_row am_mP_8 (by rw [am_m_8]) (by rw [am_m_8]) (fun h => by cases h) (Nat.le_of_ble_eq_true rfl) (fun Go hG => ?_), RC_fnd hx (by decide)⟩
        refine hG 200 _ _ _ _ _ _ ?_
        refine Exists.intro 0 (Exists.intro _ (Exists.intro _ ⟨by decide, hc, ?_⟩))
        refine br_f (by decide) ?_
        refine br_t (Int32.not_lt.mp h1) ?_
        refine br_f (Int32.not_le.mpr h2) ?_
        refine Exists.intro 0 (Exists.intro _ (Exists.intro _ ⟨by decide, c_T_found I F S.2.2.2.2.2.2.1 S.2.2.2.2.2.2.2 5 (by decide), ?_⟩))
        exact ⟨rfl, rfl, rfl, rfl⟩
      · rw [if_neg h2]
        obtain ⟨m, hm0, rfl⟩ := nI_of h2
        have hm : m ≤ 40 := (nI_leI hm0 (by decide)).mp (Int32.not_lt.mp h1)
        rw [nat_nI (by omega)]
        have hx2 : RCx (upd I (60 + j) (nI m)) (va_up F (19 + 2 * j) (fillF (F (19 + 2 * j)) 0 m (nI 0))) (sR S (upd S.2.1.1 j (nI m), new2 S.2.1.2 j m (nI 0))) := by
          refine ⟨skyC_congr hs (fun z hz => pk_un (by omega)) (fun z hz => va_up_ne _ _ (by omega)), fun a ha => ?_, txtC_congr ht (fun z hz => pk_un (by omega)) (fun z hz => va_up_ne _ _ (by omega)), by rw [pk_un (by omega)]; exact hl.1, by rw [pk_un (by omega)]; exact hl.2.1, ?_⟩
          · obtain ⟨g1, g2, g3⟩ := hr a ha
            show upd I (60 + j) (nI m) (60 + a) = upd S.2.1.1 j (nI m) a ∧ szOk 40 (upd S.2.1.1 j (nI m) a) ∧ ∀ i, i < nat (upd S.2.1.1 j (nI m) a) → va_up F (19 + 2 * j) (fillF (F (19 + 2 * j)) 0 m (nI 0)) (19 + 2 * a) i = new2 S.2.1.2 j m (nI 0) a i
            by_cases haj : a = j
            · subst haj
              have e1 : upd S.2.1.1 a (nI m) a = nI m := pk_us
              rw [e1, pk_us, nat_nI (by omega), va_up_self]
              refine ⟨rfl, Or.inr ⟨m, hm, rfl⟩, fun i hi => ?_⟩
              unfold fillF new2
              rw [if_pos (by omega), if_pos ⟨rfl, hi⟩]
            · have e1 : upd S.2.1.1 j (nI m) a = S.2.1.1 a := pk_un haj
              rw [e1, pk_un (by omega), va_up_ne _ _ (by omega)]
              refine ⟨g1, g2, fun i hi => ?_⟩
              unfold new2
              rw [if_neg (fun q => haj q.1)]
              exact g3 i hi
          · intro f hf
            rw [va_up_ne _ _ (by omega)]
            exact hl.2.2 f hf
        have hb := c_S_begin (cH I F S.2.2.2.2.2.2.1 S.2.2.2.2.2.2.2) (18 + 2 * j) (19 + 2 * j) _ (cH_row (by omega)) 40 m _ (nI 0) (by omega) (cH_rowc (by omega)) (by omega) hm
        rw [cH_rows (by omega), cH_rowcs (by omega)] at hb
        refine ⟨_, am_ev 3 (some .int) false [] ok_T_row am_mP_8 (by rw [am_m_8]) (by rw [am_m_8]) (fun h => by cases h) (Nat.le_of_ble_eq_true rfl) (fun Go hG => ?_), RC_of hx2⟩
        refine hG 200 _ _ _ _ _ _ ?_
        refine Exists.intro 0 (Exists.intro _ (Exists.intro _ ⟨by decide, hc, ?_⟩))
        refine br_f (by decide) ?_
        refine br_t (Int32.not_lt.mp h1) ?_
        refine br_t (nI_pos' (by omega)) ?_
        refine Exists.intro j (Exists.intro (18 + 2 * j) ⟨by omega, rfl, rfR_at (by omega), ?_⟩)
        refine am_vt (cH_row (by omega)) rfl ?_
        refine Exists.intro 1 (Exists.intro _ (Exists.intro _ ⟨by decide, hb, ?_⟩))
        exact ⟨rfl, rfl, rfl, rfl⟩

theorem pc_T_text (S : Sta) (hp : List Am_C) (h : RC S hp) (r n : Int32) : ∃ hp', Am_Ev false 6 0 0 23 [.ref 0, .int r, .int n] hp (some (.int (spText S r n).1)) hp' ∧ RC (spText S r n).2 hp' := by
  obtain ⟨I, F, rfl, hx⟩ := h
  obtain ⟨hs, hr, ht, hl⟩ := id hx
  unfold spText
  cases ho : okT r with
  | false =>
    rw [if_pos rfl]
    have hc := c_T_isText (cH I F S.2.2.2.2.2.2.1 S.2.2.2.2.2.2.2) r
    rw [show in3 r (nI 0) (nI 3) = false from ho] at hc
    refine ⟨_, am_ev 3 (some .int) false [] ok_T_text am_mP_23 (by rw [am_m_23]) (by rw [am_m_23]) (fun h => by cases h) (Nat.le_of_ble_eq_true rfl) (fun Go hG => ?_), RC_of hx⟩
    refine hG 200 _ _ _ _ _ _ ?_
    refine Exists.intro 0 (Exists.intro _ (Exists.intro _ ⟨by decide, hc, ?_⟩))
    refine br_t rfl ?_
    exact ⟨rfl, rfl, rfl, rfl⟩
  | true =>
    rw [if_neg (by decide)]
    obtain ⟨j, -, hj, rfl⟩ := in3_nat (by decide) (by decide) ho
    rw [nat_nI (by omega)]
    have hc := c_T_isText (cH I F S.2.2.2.2.2.2.1 S.2.2.2.2.2.2.2) (nI j)
    rw [in3_nI (by omega) (by omega) hj] at hc
    by_cases h1 : nI 60 < n
    · rw [if_pos h1]
      refine ⟨_, am_ev 3 (some .int) false [] ok_T_text am_mP_23 (by rw [am_m_23]) (by rw [am_m_23]) (fun h => by cases h) (Nat.le_of_ble_eq_true rfl) (fun Go hG => ?_), RC_of hx⟩
      refine hG 200 _ _ _ _ _ _ ?_
      refine Exists.intro 0 (Exists.intro _ (Exists.intro _ ⟨by decide, hc, ?_⟩))
      refine br_f (by decide) ?_
      refine br_f (Int32.not_le.mpr h1) ?_
      exact ⟨rfl, rfl, rfl, rfl⟩
    · rw [if_neg h1]
      by_cases h2 : n < 0
      · rw [if_pos h2]
        refine ⟨_, am_ev 3 (some .int) false [] ok_T_text am_mP_23 (by rw [am_m_23]) (by rw [am_m_23]) (fun h => by cases h) (Nat.le_of_ble_eq_true rfl) (fun Go hG => ?_), RC_fnd hx (by decide)⟩
        refine hG 200 _ _ _ _ _ _ ?_
        refine Exists.intro 0 (Exists.intro _ (Exists.intro _ ⟨by decide, hc, ?_⟩))
        refine br_f (by decide) ?_
        refine br_t (Int32.not_lt.mp h1) ?_
        refine br_f (Int32.not_le.mpr h2) ?_
        refine Exists.intro 0 (Exists.intro _ (Exists.intro _ ⟨by decide, c_T_found I F S.2.2.2.2.2.2.1 S.2.2.2.2.2.2.2 5 (by decide), ?_⟩))
        exact ⟨rfl, rfl, rfl, rfl⟩
      · rw [if_neg h2]
        obtain ⟨m, hm0, rfl⟩ := nI_of h2
        have hm : m ≤ 60 := (nI_leI hm0 (by decide)).mp (Int32.not_lt.mp h1)
        rw [nat_nI (by omega)]
        have hx2 : RCx (upd I (70 + j) (nI m)) (va_up F (31 + 2 * j) (fillF (F (31 + 2 * j)) 0 m (nI 32))) (sX S (upd S.2.2.1.1 j (nI m), new2 S.2.2.1.2 j m (nI 32))) := by
          refine ⟨skyC_congr hs (fun z hz => pk_un (by omega)) (fun z hz => va_up_ne _ _ (by omega)), rowC_congr hr (fun z hz => pk_un (by omega)) (fun z hz => va_up_ne _ _ (by omega)), fun a ha => ?_, by rw [pk_un (by omega)]; exact hl.1, by rw [pk_un (by omega)]; exact hl.2.1, ?_⟩
          · obtain ⟨g1, g2, g3⟩ := ht a ha
            show upd I (70 + j) (nI m) (70 + a) = upd S.2.2.1.1 j (nI m) a ∧ szOk 60 (upd S.2.2.1.1 j (nI m) a) ∧ ∀ i, i < nat (upd S.2.2.1.1 j (nI m) a) → va_up F (31 + 2 * j) (fillF (F (31 + 2 * j)) 0 m (nI 32)) (31 + 2 * a) i = new2 S.2.2.1.2 j m (nI 32) a i
            by_cases haj : a = j
            · subst haj
              have e1 : upd S.2.2.1.1 a (nI m) a = nI m := pk_us
              rw [e1, pk_us, nat_nI (by omega), va_up_self]
              refine ⟨rfl, Or.inr ⟨m, hm, rfl⟩, fun i hi => ?_⟩
              unfold fillF new2
              rw [if_pos (by omega), if_pos ⟨rfl, hi⟩]
            · have e1 : upd S.2.2.1.1 j (nI m) a = S.2.2.1.1 a := pk_un haj
              rw [e1, pk_un (by omega), va_up_ne _ _ (by omega)]
              refine ⟨g1, g2, fun i hi => ?_⟩
              unfold new2
              rw [if_neg (fun q => haj q.1)]
              exact g3 i hi
          · intro f hf
            rw [va_up_ne _ _ (by omega)]
            exact hl.2.2 f hf
        have hb := c_S_begin (cH I F S.2.2.2.2.2.2.1 S.2.2.2.2.2.2.2) (30 + 2 * j) (31 + 2 * j) _ (cH_txt (by omega)) 60 m _ (nI 32) (by omega) (cH_txtc (by omega)) (by omega) hm
        rw [cH_txts (by omega), cH_txtcs (by omega)] at hb
        refine ⟨_, am_ev 3 (some .int) false [] ok_T_text am_mP_23 (by rw [am_m_23]) (by rw [am_m_23]) (fun h => by cases h) (Nat.le_of_ble_eq_true rfl) (fun Go hG => ?_), RC_of hx2⟩
        refine hG 200 _ _ _ _ _ _ ?_
        refine Exists.intro 0 (Exists.intro _ (Exists.intro _ ⟨by decide, hc, ?_⟩))
        refine br_f (by decide) ?_
        refine br_t (Int32.not_lt.mp h1) ?_
        refine br_t (nI_pos' (by omega)) ?_
        refine Exists.intro j (Exists.intro (30 + 2 * j) ⟨by omega, rfl, rfT_at (by omega), ?_⟩)
        refine am_vt (cH_txt (by omega)) rfl ?_
        refine Exists.intro 1 (Exists.intro _ (Exists.intro _ ⟨by decide, hb, ?_⟩))
        exact ⟨rfl, rfl, rfl, rfl⟩

theorem pc_T_tear (S : Sta) (hp : List Am_C) (h : RC S hp) (r : Int32) : ∃ hp', Am_Ev false 6 0 0 19 [.ref 0, .int r] hp (some (.int (spTear S r).1)) hp' ∧ RC (spTear S r).2 hp' := by
  obtain ⟨I, F, rfl, hx⟩ := h
  obtain ⟨hs, hr, ht, hl⟩ := id hx
  unfold spTear wrR
  cases ho : okR r with
  | false =>
    rw [if_pos rfl]
    refine ⟨_, am_ev 3 (some .int) false [] ok_T_tear am_mP_19 (by rw [am_m_19]) (by rw [am_m_19]) (fun h => by cases h) (Nat.le_of_ble_eq_true rfl) (fun Go hG => ?_), RC_of hx⟩
    refine hG 200 _ _ _ _ _ _ ?_
    refine Exists.intro 1 (Exists.intro _ (Exists.intro _ ⟨by decide, c_T_refusalOfRow_a I F _ _ r ho, ?_⟩))
    refine br_f (by decide) ?_
    exact ⟨rfl, rfl, rfl, rfl⟩
  | true =>
    rw [if_neg (by decide)]
    obtain ⟨j, -, hj, rfl⟩ := in3_nat (by decide) (by decide) ho
    rw [nat_nI (by omega)]
    obtain ⟨hr1, hr2, hr3⟩ := hr j (by omega)
    have hr1' : I (60 + j) = rz S j := hr1
    rcases szOk_neg (by decide) hr2 with ⟨e0, e1, e2⟩ | ⟨k, hk, e0, e1, e2⟩
    · have e1' : rz S j < 0 := e1
      rw [if_pos e1']
      refine ⟨_, am_ev 3 (some .int) false [] ok_T_tear am_mP_19 (by rw [am_m_19]) (by rw [am_m_19]) (fun h => by cases h) (Nat.le_of_ble_eq_true rfl) (fun Go hG => ?_), RC_fnd hx (by decide)⟩
      refine hG 200 _ _ _ _ _ _ ?_
      refine Exists.intro 1 (Exists.intro _ (Exists.intro _ ⟨by decide, c_T_refusalOfRow_b I F _ _ j hj (by rw [hr1]; exact e1), ?_⟩))
      refine br_f (by decide) ?_
      exact ⟨rfl, rfl, rfl, rfl⟩
    · have e1' : ¬ rz S j < 0 := e1
      rw [if_neg e1']
      have e0' : rz S j = nI k := e0
      have hok := c_T_refusalOfRow_d I F S.2.2.2.2.2.2.1 S.2.2.2.2.2.2.2 j hj (by rw [hr1]; exact e1)
      have hx2 : RCx (upd I (60 + j) (-nI 1)) F (sR S (upd S.2.1.1 j (-nI 1), S.2.1.2)) := by
        refine ⟨skyC_congr hs (fun z hz => pk_un (by omega)) (fun z hz => rfl), fun a ha => ?_, txtC_congr ht (fun z hz => pk_un (by omega)) (fun z hz => rfl), by rw [pk_un (by omega)]; exact hl.1, by rw [pk_un (by omega)]; exact hl.2.1, hl.2.2⟩
        obtain ⟨g1, g2, g3⟩ := hr a ha
        show upd I (60 + j) (-nI 1) (60 + a) = upd S.2.1.1 j (-nI 1) a ∧ szOk 40 (upd S.2.1.1 j (-nI 1) a) ∧ ∀ i, i < nat (upd S.2.1.1 j (-nI 1) a) → F (19 + 2 * a) i = S.2.1.2 a i
        by_cases haj : a = j
        · subst haj
          have e1 : upd S.2.1.1 a (-nI 1) a = -nI 1 := pk_us
          rw [e1, pk_us]
          exact ⟨rfl, Or.inl rfl, fun i hi => by rw [nat_m1] at hi; omega⟩
        · have e1 : upd S.2.1.1 j (-nI 1) a = S.2.1.1 a := pk_un haj
          rw [e1, pk_un (by omega)]
          exact ⟨g1, g2, g3⟩
      refine ⟨_, am_ev 3 (some .int) false [] ok_T_tear am_mP_19 (by rw [am_m_19]) (by rw [am_m_19]) (fun h => by cases h) (Nat.le_of_ble_eq_true rfl) (fun Go hG => ?_), RC_of hx2⟩
      refine hG 200 _ _ _ _ _ _ ?_
      refine Exists.intro 1 (Exists.intro _ (Exists.intro _ ⟨by decide, hok, ?_⟩))
      refine br_t rfl ?_
      refine Exists.intro j (Exists.intro (18 + 2 * j) ⟨by omega, rfl, rfR_at (by omega), ?_⟩)
      refine am_ob_of (cH_row (by omega)) ?_
      exact ⟨rfl, (cH_rows (by omega) (-nI 1)), rfl, rfl⟩

theorem pc_T_mean (S : Sta) (hp : List Am_C) (h : RC S hp) (r : Int32) : ∃ hp', Am_Ev false 6 0 0 22 [.ref 0, .int r] hp (some (.int (spMean S r).1)) hp' ∧ RC (spMean S r).2 hp' := by
  obtain ⟨I, F, rfl, hx⟩ := h
  obtain ⟨hs, hr, ht, hl⟩ := id hx
  unfold spMean wrR
  cases ho : okR r with
  | false =>
    rw [if_pos rfl]
    refine ⟨_, am_ev 7 (some .int) false [38] ok_T_mean am_mP_22 (by rw [am_m_22]) (by rw [am_m_22]) (fun h => by cases h) (Nat.le_of_ble_eq_true rfl) (fun Go hG => ?_), RC_of hx⟩
    refine hG 200 _ _ _ _ _ _ ?_
    refine Exists.intro 1 (Exists.intro _ (Exists.intro _ ⟨by decide, c_T_refusalOfRow_a I F _ _ r ho, ?_⟩))
    refine br_f (by decide) ?_
    exact ⟨rfl, rfl, rfl, rfl⟩
  | true =>
    rw [if_neg (by decide)]
    obtain ⟨j, -, hj, rfl⟩ := in3_nat (by decide) (by decide) ho
    rw [nat_nI (by omega)]
    obtain ⟨hr1, hr2, hr3⟩ := hr j (by omega)
    have hr1' : I (60 + j) = rz S j := hr1
    rcases szOk_neg (by decide) hr2 with ⟨e0, e1, e2⟩ | ⟨k, hk, e0, e1, e2⟩
    · have e1' : rz S j < 0 := e1
      rw [if_pos e1']
      refine ⟨_, am_ev 7 (some .int) false [38] ok_T_mean am_mP_22 (by rw [am_m_22]) (by rw [am_m_22]) (fun h => by cases h) (Nat.le_of_ble_eq_true rfl) (fun Go hG => ?_), RC_fnd hx (by decide)⟩
      refine hG 200 _ _ _ _ _ _ ?_
      refine Exists.intro 1 (Exists.intro _ (Exists.intro _ ⟨by decide, c_T_refusalOfRow_b I F _ _ j hj (by rw [hr1]; exact e1), ?_⟩))
      refine br_f (by decide) ?_
      exact ⟨rfl, rfl, rfl, rfl⟩
    · have e1' : ¬ rz S j < 0 := e1
      rw [if_neg e1']
      have e0' : rz S j = nI k := e0
      have hok := c_T_refusalOfRow_d I F S.2.2.2.2.2.2.1 S.2.2.2.2.2.2.2 j hj (by rw [hr1]; exact e1)
      by_cases hz : rz S j = 0
      · rw [if_pos hz]
        refine ⟨_, am_ev 7 (some .int) false [38] ok_T_mean am_mP_22 (by rw [am_m_22]) (by rw [am_m_22]) (fun h => by cases h) (Nat.le_of_ble_eq_true rfl) (fun Go hG => ?_), RC_fnd hx (by decide)⟩
        refine hG 200 _ _ _ _ _ _ ?_
        refine Exists.intro 1 (Exists.intro _ (Exists.intro _ ⟨by decide, hok, ?_⟩))
        refine br_t rfl ?_
        refine Exists.intro j (Exists.intro (18 + 2 * j) ⟨by omega, rfl, rfR_at (by omega), ?_⟩)
        refine am_ob_of (cH_row (by omega)) ?_
        refine bn_f (by rw [hr1']; exact hz) ?_
        refine Exists.intro 0 (Exists.intro _ (Exists.intro _ ⟨by decide, c_T_found I F S.2.2.2.2.2.2.1 S.2.2.2.2.2.2.2 4 (by decide), ?_⟩))
        exact ⟨rfl, rfl, rfl, rfl⟩
      · rw [if_neg hz]
        have hnk : nat (rz S j) = k := by rw [e0', nat_nI (by omega)]
        rw [hnk]
        refine ⟨_, am_ev 7 (some .int) false [38] ok_T_mean am_mP_22 (by rw [am_m_22]) (by rw [am_m_22]) (fun h => by cases h) (Nat.le_of_ble_eq_true rfl) (fun Go hG => ?_), RC_tell hx _⟩
        have L : ∀ (c q : Nat), q + c = k → Go 38 [some (.ref 0), some (.int (nI j)), some (.int (nI 0)), some (.ref (18 + 2 * j)), some (.long (sumL (rc S j) q)), none, some (.int (nI q))] [] (cH I F S.2.2.2.2.2.2.1 S.2.2.2.2.2.2.2) 0 0 := by
          intro c
          induction c with
          | zero =>
            intro q hq
            refine hG 200 _ _ _ _ _ _ ?_
            refine am_ob_of (cH_row (by omega)) ?_
            refine br_t (by rw [hr1', e0']; exact nI_le (by omega) (by omega)) ?_
            refine am_ob_of (cH_row (by omega)) ?_
            rw [hr1']
            have hq : q = k := by omega
            subst hq
            refine And.intro (fun q0 => hz ((fa0 (rz S j)).mp q0)) ?_
            refine Exists.intro 0 (Exists.intro _ (Exists.intro _ ⟨by decide, c_T_tell I F S.2.2.2.2.2.2.1 S.2.2.2.2.2.2.2 _, ?_⟩))
            exact ⟨rfl, rfl, rfl, rfl⟩
          | succ c ih =>
            intro q hq
            refine hG 200 _ _ _ _ _ _ ?_
            refine am_ob_of (cH_row (by omega)) ?_
            refine br_f (by rw [hr1', e0']; exact nI_ge (by omega) (by omega)) ?_
            refine am_ob_of (cH_row (by omega)) ?_
            refine am_ai_of (cH_rowc (by omega)) rfl ?_
            refine Exists.intro q ⟨by omega, rfl, ?_⟩
            have hq3 : F (19 + 2 * j) q = rc S j q := hr3 q (by show q < nat (rz S j); rw [hnk]; omega)
            rw [hq3]
            have h9 := ih (q + 1) (by omega)
            rw [← nI_s1] at h9
            exact h9
        refine hG 200 _ _ _ _ _ _ ?_
        refine Exists.intro 1 (Exists.intro _ (Exists.intro _ ⟨by decide, hok, ?_⟩))
        refine br_t rfl ?_
        refine Exists.intro j (Exists.intro (18 + 2 * j) ⟨by omega, rfl, rfR_at (by omega), ?_⟩)
        refine am_ob_of (cH_row (by omega)) ?_
        refine bn_t (by rw [hr1']; exact hz) ?_
        exact L k 0 (by omega)

theorem pc_T_put (S : Sta) (hp : List Am_C) (h : RC S hp) (t i x : Int32) : ∃ hp', Am_Ev false 6 0 0 25 [.ref 0, .int t, .int i, .int x] hp (some (.int (spPut S t i x).1)) hp' ∧ RC (spPut S t i x).2 hp' := by
  obtain ⟨I, F, rfl, hx⟩ := h
  obtain ⟨hs, hr, ht, hl⟩ := id hx
  unfold spPut wrT
  cases ho : okT t with
  | false =>
    rw [if_pos rfl]
    refine ⟨_, am_ev 6 (some .int) false [] ok_T_put am_mP_25 (by rw [am_m_25]) (by rw [am_m_25]) (fun h => by cases h) (Nat.le_of_ble_eq_true rfl) (fun Go hG => ?_), RC_of hx⟩
    refine hG 200 _ _ _ _ _ _ ?_
    refine Exists.intro 1 (Exists.intro _ (Exists.intro _ ⟨by decide, c_T_refusalOfText_a I F _ _ t ho, ?_⟩))
    refine br_f (by decide) ?_
    exact ⟨rfl, rfl, rfl, rfl⟩
  | true =>
    rw [if_neg (by decide)]
    obtain ⟨j, -, hj, rfl⟩ := in3_nat (by decide) (by decide) ho
    rw [nat_nI (by omega)]
    obtain ⟨hr1, hr2, hr3⟩ := ht j (by omega)
    have hr1' : I (70 + j) = tz S j := hr1
    rcases szOk_neg (by decide) hr2 with ⟨e0, e1, e2⟩ | ⟨k, hk, e0, e1, e2⟩
    · have e1' : tz S j < 0 := e1
      rw [if_pos e1']
      refine ⟨_, am_ev 6 (some .int) false [] ok_T_put am_mP_25 (by rw [am_m_25]) (by rw [am_m_25]) (fun h => by cases h) (Nat.le_of_ble_eq_true rfl) (fun Go hG => ?_), RC_fnd hx (by decide)⟩
      refine hG 200 _ _ _ _ _ _ ?_
      refine Exists.intro 1 (Exists.intro _ (Exists.intro _ ⟨by decide, c_T_refusalOfText_b I F _ _ j hj (by rw [hr1]; exact e1), ?_⟩))
      refine br_f (by decide) ?_
      exact ⟨rfl, rfl, rfl, rfl⟩
    · have e1' : ¬ tz S j < 0 := e1
      rw [if_neg e1']
      have e0' : tz S j = nI k := e0
      have hok := c_T_refusalOfText_d I F S.2.2.2.2.2.2.1 S.2.2.2.2.2.2.2 j hj (by rw [hr1]; exact e1)
      have hm := c_S_has (cH I F S.2.2.2.2.2.2.1 S.2.2.2.2.2.2.2) (30 + 2 * j) _ _ (cH_txt (by omega)) i
      have hhas : hasI (I (70 + j)) i = in3 i (nI 0) (tz S j - nI 1) := by rw [hr1', e0']; exact hasI_in3 (by omega)
      rw [hhas] at hm
      cases hi : in3 i (nI 0) (tz S j - nI 1) with
      | false =>
        rw [if_pos rfl]
        rw [hi] at hm
        refine ⟨_, am_ev 6 (some .int) false [] ok_T_put am_mP_25 (by rw [am_m_25]) (by rw [am_m_25]) (fun h => by cases h) (Nat.le_of_ble_eq_true rfl) (fun Go hG => ?_), RC_fnd hx (by decide)⟩
        refine hG 200 _ _ _ _ _ _ ?_
        refine Exists.intro 1 (Exists.intro _ (Exists.intro _ ⟨by decide, hok, ?_⟩))
        refine br_t rfl ?_
        refine Exists.intro j (Exists.intro (30 + 2 * j) ⟨by omega, rfl, rfT_at (by omega), ?_⟩)
        refine am_vt (cH_txt (by omega)) rfl ?_
        refine Exists.intro 0 (Exists.intro _ (Exists.intro _ ⟨by decide, hm, ?_⟩))
        refine bn_f rfl ?_
        refine Exists.intro 0 (Exists.intro _ (Exists.intro _ ⟨by decide, c_T_found I F S.2.2.2.2.2.2.1 S.2.2.2.2.2.2.2 2 (by decide), ?_⟩))
        exact ⟨rfl, rfl, rfl, rfl⟩
      | true =>
        rw [if_neg (by decide)]
        rw [hi] at hm
        obtain ⟨q, hq, rfl⟩ := in3_nat2 (k := k) (by omega) e0 hi
        rw [nat_nI (by omega)]
        have hnk : nat (S.2.2.1.1 j) = k := by
          have e0' : S.2.2.1.1 j = nI k := e0
          rw [e0', nat_nI (by omega)]
        have hq3 : F (31 + 2 * j) q = tc S j q := hr3 q (by rw [hnk]; exact hq)
        have hx2 : RCx I (va_up F (31 + 2 * j) (upd (F (31 + 2 * j)) q x.toInt8.toInt32)) (sX S (S.2.2.1.1, set2 S.2.2.1.2 j q x.toInt8.toInt32)) := by
          refine ⟨skyC_congr hs (fun _ _ => rfl) (fun z hz => va_up_ne _ _ (by omega)), rowC_congr hr (fun _ _ => rfl) (fun z hz => va_up_ne _ _ (by omega)), fun a ha => ?_, hl.1, hl.2.1, ?_⟩
          · obtain ⟨g1, g2, g3⟩ := ht a ha
            refine ⟨g1, g2, fun b hb => ?_⟩
            show va_up F (31 + 2 * j) (upd (F (31 + 2 * j)) q x.toInt8.toInt32) (31 + 2 * a) b = set2 S.2.2.1.2 j q x.toInt8.toInt32 a b
            by_cases haj : a = j
            · subst haj
              rw [va_up_self]
              unfold upd set2
              by_cases hab : b = q
              · rw [if_pos hab, if_pos ⟨rfl, hab⟩]
              · rw [if_neg hab, if_neg (fun z => hab z.2)]
                exact g3 b hb
            · rw [va_up_ne _ _ (by omega)]
              unfold set2
              rw [if_neg (fun z => haj z.1)]
              exact g3 b hb
          · intro f hf
            rw [va_up_ne _ _ (by omega)]
            exact hl.2.2 f hf
        rw [← hq3]
        refine ⟨_, am_ev 6 (some .int) false [] ok_T_put am_mP_25 (by rw [am_m_25]) (by rw [am_m_25]) (fun h => by cases h) (Nat.le_of_ble_eq_true rfl) (fun Go hG => ?_), RC_of hx2⟩
        refine hG 200 _ _ _ _ _ _ ?_
        refine Exists.intro 1 (Exists.intro _ (Exists.intro _ ⟨by decide, hok, ?_⟩))
        refine br_t rfl ?_
        refine Exists.intro j (Exists.intro (30 + 2 * j) ⟨by omega, rfl, rfT_at (by omega), ?_⟩)
        refine am_vt (cH_txt (by omega)) rfl ?_
        refine Exists.intro 0 (Exists.intro _ (Exists.intro _ ⟨by decide, hm, ?_⟩))
        refine bn_t (by decide) ?_
        refine Exists.intro j (Exists.intro (30 + 2 * j) ⟨by omega, rfl, rfT_at (by omega), ?_⟩)
        refine am_ob_of (cH_txt (by omega)) ?_
        refine am_ai_of (cH_txtc (by omega)) rfl ?_
        refine Exists.intro q ⟨by omega, rfl, ?_⟩
        refine Exists.intro j (Exists.intro (30 + 2 * j) ⟨by omega, rfl, rfT_at (by omega), ?_⟩)
        refine am_ob_of (cH_txt (by omega)) ?_
        refine am_ai_of (cH_txtc (by omega)) rfl ?_
        refine Exists.intro q ⟨by omega, rfl, ?_⟩
        exact ⟨rfl, cH_txtcs (by omega) _, rfl, rfl⟩

theorem pc_T_findings (S : Sta) (hp : List Am_C) (h : RC S hp) (f : Int32) : ∃ hp', Am_Ev false 6 0 0 128 [.ref 0, .int f] hp (some (.int (spFndg S f).1)) hp' ∧ RC (spFndg S f).2 hp' := by
  obtain ⟨I, F, rfl, hx⟩ := h
  obtain ⟨hs, hr, ht, hl⟩ := id hx
  unfold spFndg
  cases ho : in3 f (nI 1) (nI 5) with
  | false =>
    rw [if_pos rfl]
    refine ⟨_, am_ev 2 (some .int) false [] ok_T_findings am_mP_128 (by rw [am_m_128]) (by rw [am_m_128]) (fun h => by cases h) (Nat.le_of_ble_eq_true rfl) (fun Go hG => ?_), RC_of hx⟩
    refine hG 200 _ _ _ _ _ _ ?_
    refine And.intro (fun h1 => ?_) (fun h1 => And.intro (fun h2 => ?_) (fun h2 => ?_))
    · exact ⟨rfl, rfl, rfl, rfl⟩
    · have : in3 f (nI 1) (nI 5) = true := by unfold in3; rw [decide_eq_true (Int32.not_lt.mp h1), decide_eq_true h2]; rfl
      rw [ho] at this
      cases this
    · exact ⟨rfl, rfl, rfl, rfl⟩
  | true =>
    rw [if_neg (by decide)]
    obtain ⟨j, hj0, hj, rfl⟩ := in3_nat (by decide) (by decide) ho
    rw [nat_nI (by omega)]
    refine ⟨_, am_ev 2 (some .int) false [] ok_T_findings am_mP_128 (by rw [am_m_128]) (by rw [am_m_128]) (fun h => by cases h) (Nat.le_of_ble_eq_true rfl) (fun Go hG => ?_), RC_of hx⟩
    refine hG 200 _ _ _ _ _ _ ?_
    refine br_f (nI_nlt hj0 (by omega)) ?_
    refine br_t (nI_le hj (by omega)) ?_
    refine Exists.intro j ⟨by omega, rfl, ?_⟩
    exact ⟨by rw [hl.2.2 j (by omega)], rfl, rfl, rfl⟩

theorem pc_T_asked (S : Sta) (hp : List Am_C) (h : RC S hp) : ∃ hp', Am_Ev false 0 0 0 119 [.ref 0] hp (some (.int (S.2.2.2.1))) hp' ∧ RC S hp' := by
  obtain ⟨I, F, rfl, hx⟩ := h
  refine ⟨_, am_ev 1 (some .int) false [] ok_T_asked am_mP_119 (by rw [am_m_119]) (by rw [am_m_119]) (fun h => by cases h) (Nat.le_of_ble_eq_true rfl) (fun Go hG => ?_), RC_of hx⟩
  refine hG 200 _ _ _ _ _ _ ?_
  exact ⟨by rw [hx.2.2.2.1], rfl, rfl, rfl⟩

theorem pc_T_finding (S : Sta) (hp : List Am_C) (h : RC S hp) : ∃ hp', Am_Ev false 0 0 0 127 [.ref 0] hp (some (.int (S.2.2.2.2.1))) hp' ∧ RC S hp' := by
  obtain ⟨I, F, rfl, hx⟩ := h
  refine ⟨_, am_ev 1 (some .int) false [] ok_T_finding am_mP_127 (by rw [am_m_127]) (by rw [am_m_127]) (fun h => by cases h) (Nat.le_of_ble_eq_true rfl) (fun Go hG => ?_), RC_of hx⟩
  refine hG 200 _ _ _ _ _ _ ?_
  exact ⟨by rw [hx.2.2.2.2.1], rfl, rfl, rfl⟩

theorem pc_T_upper (S : Sta) (hp : List Am_C) (h : RC S hp) : ∃ hp', Am_Ev false 0 0 0 120 [.ref 0] hp (some (.long (S.2.2.2.2.2.2.1))) hp' ∧ RC S hp' := by
  obtain ⟨I, F, rfl, hx⟩ := h
  refine ⟨_, am_ev 1 (some .long) false [] ok_T_upper am_mP_120 (by rw [am_m_120]) (by rw [am_m_120]) (fun h => by cases h) (Nat.le_of_ble_eq_true rfl) (fun Go hG => ?_), RC_of hx⟩
  refine hG 200 _ _ _ _ _ _ ?_
  exact ⟨rfl, rfl, rfl, rfl⟩

theorem pc_T_lower (S : Sta) (hp : List Am_C) (h : RC S hp) : ∃ hp', Am_Ev false 0 0 0 121 [.ref 0] hp (some (.long (S.2.2.2.2.2.2.2))) hp' ∧ RC S hp' := by
  obtain ⟨I, F, rfl, hx⟩ := h
  refine ⟨_, am_ev 1 (some .long) false [] ok_T_lower am_mP_121 (by rw [am_m_121]) (by rw [am_m_121]) (fun h => by cases h) (Nat.le_of_ble_eq_true rfl) (fun Go hG => ?_), RC_of hx⟩
  refine hG 200 _ _ _ _ _ _ ?_
  exact ⟨rfl, rfl, rfl, rfl⟩
end
section
/-! ===== copy, on both sides ===== -/
theorem c_M_isPart (I : Nat → Int32) (F : Nat → Nat → Int32) (u v : Int64) (r : Nat) (hr : r < 6) (i n : Int32) : Am_Ev false 0 0 0 142 [.ref 0, .int (nI r), .int i, .int n] (mH I F u v) (some (.int (b2 (prtB (F 5 r) i n)))) (mH I F u v) := by
  refine am_ev 4 (some .boolean) false [] ok_M_isPart am_mP_142 (by rw [am_m_142]) (by rw [am_m_142]) (fun h => by cases h) (Nat.le_of_ble_eq_true rfl) ?_
  intro Go hG
  refine hG 200 _ _ _ _ _ _ ?_
  refine And.intro (fun h1 => ?_) (fun h1 => And.intro (fun h2 => ?_) (fun h2 => ?_))
  · exact ⟨Or.inl rfl, by unfold prtB; rw [decide_eq_false (Int32.not_le.mpr h1)]; rfl, rfl, rfl, rfl⟩
  · exact ⟨Or.inl rfl, by unfold prtB; rw [decide_eq_true (Int32.not_lt.mp h1), decide_eq_false (Int32.not_le.mpr h2)]; rfl, rfl, rfl, rfl⟩
  · refine Exists.intro r ⟨hr, rfl, ?_⟩
    refine And.intro (fun h3 => ?_) (fun h3 => ?_)
    · exact ⟨Or.inl rfl, by unfold prtB; rw [decide_eq_true (Int32.not_lt.mp h1), decide_eq_true (Int32.not_lt.mp h2), decide_eq_false (Int32.not_le.mpr h3)]; rfl, rfl, rfl, rfl⟩
    · exact ⟨Or.inr rfl, by unfold prtB; rw [decide_eq_true (Int32.not_lt.mp h1), decide_eq_true (Int32.not_lt.mp h2), decide_eq_true (Int32.not_lt.mp h3)]; rfl, rfl, rfl, rfl⟩

theorem prtB_nat {k : Nat} {i n : Int32} (hk : k ≤ 40) (hn : ¬ n < 0) (h : prtB (nI k) i n = true) : ∃ a m, i = nI a ∧ n = nI m ∧ a + m ≤ k := by
  unfold prtB at h
  simp only [Bool.and_eq_true, decide_eq_true_eq] at h
  obtain ⟨m, hm, rfl⟩ := nI_of hn
  obtain ⟨a, ha, rfl⟩ := nI_of (Int32.not_lt.mpr h.1)
  have hm2 : m ≤ 40 := (nI_leI hm (by decide)).mp h.2.1
  have h3 := h.2.2
  rw [Int32.le_iff_toInt_le, pk_sub_toInt (by omega) (by omega), nI_toInt ha] at h3
  exact ⟨a, m, rfl, rfl, by omega⟩
theorem hpr_prt {k : Nat} {i n : Int32} (hk : k ≤ 40) (hn : ¬ n < 0) : hprI (nI k) i n = prtB (nI k) i n := by
  obtain ⟨m, hm, rfl⟩ := nI_of hn
  unfold hprI prtB
  rw [decide_eq_true hn, Bool.true_and]
  rw [show decide (¬ i < 0) = decide (0 ≤ i) from decide_eq_decide.mpr Int32.not_lt]
  by_cases hi : 0 ≤ i
  · rw [decide_eq_true hi, Bool.true_and, Bool.true_and]
    by_cases h40 : m ≤ 40
    · rw [decide_eq_true (show nI m ≤ nI 40 from nI_le h40 (by decide)), Bool.true_and]
      by_cases hmk : m ≤ k
      · rw [decide_eq_true (show nI m ≤ nI k from nI_le hmk (by omega)), Bool.true_and]
      · rw [decide_eq_false (show ¬ nI m ≤ nI k from nI_ge (by omega) (by omega)), Bool.false_and]
        symm
        apply decide_eq_false
        rw [Int32.le_iff_toInt_le, pk_sub_toInt (by omega) (by omega)]
        have h0 := (Int32.le_iff_toInt_le).mp hi
        have h1 : (0 : Int32).toInt = 0 := rfl
        omega
    · rw [decide_eq_false (show ¬ nI m ≤ nI 40 from nI_ge (by omega) (by omega)), Bool.false_and, decide_eq_false (show ¬ nI m ≤ nI k from nI_ge (by omega) (by omega)), Bool.false_and]
  · rw [decide_eq_false hi, Bool.false_and, Bool.false_and]
theorem cpy_rel {S : Sta} {r t i j n kr kt : Nat} {a b : Nat} {f : Nat → Int32} (hr : ∀ q, q < kr → f (40 * r + q) = S.2.1.2 r q) (ha : f (40 * a + b) = S.2.1.2 a b) (hi : i + n ≤ kr) (hj : j + n ≤ 40) (hb : b < 40) : va_cpy f f (40 * r + i) (40 * t + j) n (40 * a + b) = cpy2 S.2.1.2 r i t j n a b := by
  unfold va_cpy cpy2
  by_cases h : a = t ∧ j ≤ b ∧ b < j + n
  · rw [if_pos h, if_pos (by omega)]
    rw [show 40 * r + i + (40 * a + b - (40 * t + j)) = 40 * r + (i + (b - j)) by omega]
    exact hr _ (by omega)
  · rw [if_neg h, if_neg (by omega)]
    exact ha

theorem cpy0 {f g : Nat → Int32} {x y : Nat} : va_cpy f g x y 0 = g := by
  funext j
  unfold va_cpy
  rw [if_neg (by omega)]

theorem pm_M_copy (S : Sta) (hp : List Am_C) (h : RM S hp) (r i t j n : Int32) : ∃ hp', Am_Ev false 4 0 0 141 [.ref 0, .int r, .int i, .int t, .int j, .int n] hp (some (.int (spCopy S r i t j n).1)) hp' ∧ RM (spCopy S r i t j n).2 hp' := by
  obtain ⟨I, F, rfl, hx⟩ := h
  obtain ⟨hs, hr, ht, hl⟩ := id hx
  unfold spCopy
  cases ho : okR r with
  | false =>
    rw [if_pos rfl]
    have hc1 := c_M_isRow (mH I F S.2.2.2.2.2.2.1 S.2.2.2.2.2.2.2) r
    rw [show in3 r (nI 0) (nI 5) = false from ho] at hc1
    refine ⟨_, am_ev 9 (some .int) false [96, 101] ok_M_copy am_mP_141 (by rw [am_m_141]) (by rw [am_m_141]) (fun h => by cases h) (Nat.le_of_ble_eq_true rfl) (fun Go hG => ?_), RM_of hx⟩
    refine hG 200 _ _ _ _ _ _ ?_
    refine Exists.intro 1 (Exists.intro _ (Exists.intro _ ⟨by decide, hc1, ?_⟩))
    refine br_t rfl ?_
    exact ⟨rfl, rfl, rfl, rfl⟩
  | true =>
    rw [if_neg (by decide)]
    obtain ⟨a, -, ha, rfl⟩ := in3_nat (by decide) (by decide) ho
    rw [nat_nI (by omega)]
    have hc1 := c_M_isRow (mH I F S.2.2.2.2.2.2.1 S.2.2.2.2.2.2.2) (nI a)
    rw [in3_nI (by omega) (by omega) ha] at hc1
    cases ho2 : okR t with
    | false =>
      rw [if_pos rfl]
      have hc2 := c_M_isRow (mH I F S.2.2.2.2.2.2.1 S.2.2.2.2.2.2.2) t
      rw [show in3 t (nI 0) (nI 5) = false from ho2] at hc2
      refine ⟨_, am_ev 9 (some .int) false [96, 101] ok_M_copy am_mP_141 (by rw [am_m_141]) (by rw [am_m_141]) (fun h => by cases h) (Nat.le_of_ble_eq_true rfl) (fun Go hG => ?_), RM_of hx⟩
      refine hG 200 _ _ _ _ _ _ ?_
      refine Exists.intro 1 (Exists.intro _ (Exists.intro _ ⟨by decide, hc1, ?_⟩))
      refine br_f (by decide) ?_
      refine Exists.intro 1 (Exists.intro _ (Exists.intro _ ⟨by decide, hc2, ?_⟩))
      refine bn_f rfl ?_
      exact ⟨rfl, rfl, rfl, rfl⟩
    | true =>
      rw [if_neg (by decide)]
      obtain ⟨b, -, hb, rfl⟩ := in3_nat (by decide) (by decide) ho2
      rw [nat_nI (by omega)]
      have hc2 := c_M_isRow (mH I F S.2.2.2.2.2.2.1 S.2.2.2.2.2.2.2) (nI b)
      rw [in3_nI (by omega) (by omega) hb] at hc2
      by_cases h3 : n < 0
      · rw [if_pos h3]
        refine ⟨_, am_ev 9 (some .int) false [96, 101] ok_M_copy am_mP_141 (by rw [am_m_141]) (by rw [am_m_141]) (fun h => by cases h) (Nat.le_of_ble_eq_true rfl) (fun Go hG => ?_), RM_fnd hx (by decide)⟩
        refine hG 200 _ _ _ _ _ _ ?_
        refine Exists.intro 1 (Exists.intro _ (Exists.intro _ ⟨by decide, hc1, ?_⟩))
        refine br_f (by decide) ?_
        refine Exists.intro 1 (Exists.intro _ (Exists.intro _ ⟨by decide, hc2, ?_⟩))
        refine bn_t (by decide) ?_
        refine br_f (Int32.not_le.mpr h3) ?_
        refine Exists.intro 0 (Exists.intro _ (Exists.intro _ ⟨by decide, c_M_found I F S.2.2.2.2.2.2.1 S.2.2.2.2.2.2.2 5 (by decide), ?_⟩))
        exact ⟨rfl, rfl, rfl, rfl⟩
      · rw [if_neg h3]
        obtain ⟨r1, r2, r3⟩ := hr a (by omega)
        obtain ⟨t1, t2, t3⟩ := hr b (by omega)
        have hs1 : F 5 a = rz S a := r1
        have hs2 : F 5 b = rz S b := t1
        by_cases g1 : rz S a < 0
        · rw [if_pos g1]
          
          refine ⟨_, am_ev 9 (some .int) false [96, 101] ok_M_copy am_mP_141 (by rw [am_m_141]) (by rw [am_m_141]) (fun h => by cases h) (Nat.le_of_ble_eq_true rfl) (fun Go hG => ?_), RM_fnd hx (by decide)⟩
          refine hG 200 _ _ _ _ _ _ ?_
          refine Exists.intro 1 (Exists.intro _ (Exists.intro _ ⟨by decide, hc1, ?_⟩))
          refine br_f (by decide) ?_
          refine Exists.intro 1 (Exists.intro _ (Exists.intro _ ⟨by decide, hc2, ?_⟩))
          refine bn_t (by decide) ?_
          refine br_t (Int32.not_lt.mp h3) ?_
          refine Exists.intro a ⟨by omega, rfl, ?_⟩
          refine br_t (by rw [hs1]; exact g1) ?_
          refine Exists.intro 0 (Exists.intro _ (Exists.intro _ ⟨by decide, c_M_found I F S.2.2.2.2.2.2.1 S.2.2.2.2.2.2.2 1 (by decide), ?_⟩))
          exact ⟨rfl, rfl, rfl, rfl⟩
        · rw [if_neg g1]
          
          by_cases g2 : rz S b < 0
          · rw [if_pos g2]
            
            refine ⟨_, am_ev 9 (some .int) false [96, 101] ok_M_copy am_mP_141 (by rw [am_m_141]) (by rw [am_m_141]) (fun h => by cases h) (Nat.le_of_ble_eq_true rfl) (fun Go hG => ?_), RM_fnd hx (by decide)⟩
            refine hG 200 _ _ _ _ _ _ ?_
            refine Exists.intro 1 (Exists.intro _ (Exists.intro _ ⟨by decide, hc1, ?_⟩))
            refine br_f (by decide) ?_
            refine Exists.intro 1 (Exists.intro _ (Exists.intro _ ⟨by decide, hc2, ?_⟩))
            refine bn_t (by decide) ?_
            refine br_t (Int32.not_lt.mp h3) ?_
            refine Exists.intro a ⟨by omega, rfl, ?_⟩
            refine br_f (by rw [hs1]; exact g1) ?_
            refine Exists.intro b ⟨by omega, rfl, ?_⟩
            refine br_f (by rw [hs2]; exact Int32.not_le.mpr g2) ?_
            refine Exists.intro 0 (Exists.intro _ (Exists.intro _ ⟨by decide, c_M_found I F S.2.2.2.2.2.2.1 S.2.2.2.2.2.2.2 1 (by decide), ?_⟩))
            exact ⟨rfl, rfl, rfl, rfl⟩
          · rw [if_neg g2]
            
            have r2' : szOk 40 (rz S a) := r2
            have t2' : szOk 40 (rz S b) := t2
            rcases szOk_neg (by decide) r2' with ⟨-, z, -⟩ | ⟨ka, hka, ea, -, -⟩
            · exact absurd z g1
            rcases szOk_neg (by decide) t2' with ⟨-, z, -⟩ | ⟨kb, hkb, eb, -, -⟩
            · exact absurd z g2
            have hP1 : hprI (rz S a) i n = prtB (rz S a) i n := by rw [ea]; exact hpr_prt hka h3
            have hP2 : hprI (rz S b) j n = prtB (rz S b) j n := by rw [eb]; exact hpr_prt hkb h3
            cases p1 : prtB (rz S a) i n with
            | false =>
              rw [if_pos rfl]
              have hq1 := c_M_isPart I F S.2.2.2.2.2.2.1 S.2.2.2.2.2.2.2 a (by omega) i n
              rw [hs1, p1] at hq1
              
              refine ⟨_, am_ev 9 (some .int) false [96, 101] ok_M_copy am_mP_141 (by rw [am_m_141]) (by rw [am_m_141]) (fun h => by cases h) (Nat.le_of_ble_eq_true rfl) (fun Go hG => ?_), RM_fnd hx (by decide)⟩
              refine hG 200 _ _ _ _ _ _ ?_
              refine Exists.intro 1 (Exists.intro _ (Exists.intro _ ⟨by decide, hc1, ?_⟩))
              refine br_f (by decide) ?_
              refine Exists.intro 1 (Exists.intro _ (Exists.intro _ ⟨by decide, hc2, ?_⟩))
              refine bn_t (by decide) ?_
              refine br_t (Int32.not_lt.mp h3) ?_
              refine Exists.intro a ⟨by omega, rfl, ?_⟩
              refine br_f (by rw [hs1]; exact g1) ?_
              refine Exists.intro b ⟨by omega, rfl, ?_⟩
              refine br_t (by rw [hs2]; exact Int32.not_lt.mp g2) ?_
              refine Exists.intro 0 (Exists.intro _ (Exists.intro _ ⟨by decide, hq1, ?_⟩))
              refine br_t rfl ?_
              refine Exists.intro 0 (Exists.intro _ (Exists.intro _ ⟨by decide, c_M_found I F S.2.2.2.2.2.2.1 S.2.2.2.2.2.2.2 2 (by decide), ?_⟩))
              exact ⟨rfl, rfl, rfl, rfl⟩
            | true =>
              rw [if_neg (by decide)]
              have hq1 := c_M_isPart I F S.2.2.2.2.2.2.1 S.2.2.2.2.2.2.2 a (by omega) i n
              rw [hs1, p1] at hq1
              
              cases p2 : prtB (rz S b) j n with
              | false =>
                rw [if_pos rfl]
                have hq2 := c_M_isPart I F S.2.2.2.2.2.2.1 S.2.2.2.2.2.2.2 b (by omega) j n
                rw [hs2, p2] at hq2
                
                refine ⟨_, am_ev 9 (some .int) false [96, 101] ok_M_copy am_mP_141 (by rw [am_m_141]) (by rw [am_m_141]) (fun h => by cases h) (Nat.le_of_ble_eq_true rfl) (fun Go hG => ?_), RM_fnd hx (by decide)⟩
                refine hG 200 _ _ _ _ _ _ ?_
                refine Exists.intro 1 (Exists.intro _ (Exists.intro _ ⟨by decide, hc1, ?_⟩))
                refine br_f (by decide) ?_
                refine Exists.intro 1 (Exists.intro _ (Exists.intro _ ⟨by decide, hc2, ?_⟩))
                refine bn_t (by decide) ?_
                refine br_t (Int32.not_lt.mp h3) ?_
                refine Exists.intro a ⟨by omega, rfl, ?_⟩
                refine br_f (by rw [hs1]; exact g1) ?_
                refine Exists.intro b ⟨by omega, rfl, ?_⟩
                refine br_t (by rw [hs2]; exact Int32.not_lt.mp g2) ?_
                refine Exists.intro 0 (Exists.intro _ (Exists.intro _ ⟨by decide, hq1, ?_⟩))
                refine br_f (by decide) ?_
                refine Exists.intro 0 (Exists.intro _ (Exists.intro _ ⟨by decide, hq2, ?_⟩))
                refine bn_f rfl ?_
                refine Exists.intro 0 (Exists.intro _ (Exists.intro _ ⟨by decide, c_M_found I F S.2.2.2.2.2.2.1 S.2.2.2.2.2.2.2 2 (by decide), ?_⟩))
                exact ⟨rfl, rfl, rfl, rfl⟩
              | true =>
                rw [if_neg (by decide)]
                have hq2 := c_M_isPart I F S.2.2.2.2.2.2.1 S.2.2.2.2.2.2.2 b (by omega) j n
                rw [hs2, p2] at hq2
                
                have q1 := p1
                have q2 := p2
                rw [ea] at q1
                rw [eb] at q2
                obtain ⟨x, m, rfl, rfl, hxm⟩ := prtB_nat hka h3 q1
                obtain ⟨y, m', rfl, hmm, hym⟩ := prtB_nat hkb h3 q2
                have hmm2 : m = m' := by
                  by_cases h40 : m ≤ 40 ∧ m' ≤ 40
                  · exact (nI_eq (by omega) (by omega)).mp hmm
                  · omega
                subst hmm2
                rw [nat_nI (by omega), nat_nI (by omega), nat_nI (by omega)]
                have hna : nat (S.2.1.1 a) = ka := by
                  have ea' : S.2.1.1 a = nI ka := ea
                  rw [ea', nat_nI (by omega)]
                have hx2 : RMx I (va_up F 4 (va_cpy (F 4) (F 4) (40 * a + x) (40 * b + y) m)) (sR S (S.2.1.1, cpy2 S.2.1.2 a x b y m)) := by
                  refine ⟨hs, fun q hq => ?_, ht, hl⟩
                  obtain ⟨z1, z2, z3⟩ := hr q hq
                  refine ⟨z1, z2, fun c hc => ?_⟩
                  have h40 := rw40 (S := S) hr hq hc
                  exact cpy_rel (kr := ka) (kt := 0) (fun p hp => by have := r3 p (by rw [hna]; exact hp); exact this) (z3 c hc) (by omega) (by omega) h40
                refine ⟨_, am_ev 9 (some .int) false [96, 101] ok_M_copy am_mP_141 (by rw [am_m_141]) (by rw [am_m_141]) (fun h => by cases h) (Nat.le_of_ble_eq_true rfl) (fun Go hG => ?_), RM_of hx2⟩
                have hback : ∀ v : Int32, (v = nI 0 → ¬ (a = b ∧ x < y)) → (v = nI 1 → a = b ∧ x < y) → v = nI 0 ∨ v = nI 1 → Go 96 [some (.ref 0), some (.int (nI a)), some (.int (nI x)), some (.int (nI b)), some (.int (nI y)), some (.int (nI m)), none, none, none] [.int v] (mH I F S.2.2.2.2.2.2.1 S.2.2.2.2.2.2.2) 0 0 := by
                  intro v w0 w1 wv
                  rcases wv with rfl | rfl
                  · have hc := w0 rfl
                    have e : ∀ k, k < m → upd (va_cpy (F 4) (F 4) (40 * a + x) (40 * b + y) k) (40 * b + y + k) (va_cpy (F 4) (F 4) (40 * a + x) (40 * b + y) k (40 * a + x + k)) = va_cpy (F 4) (F 4) (40 * a + x) (40 * b + y) (k + 1) := by
                      intro k hk
                      funext p
                      unfold upd va_cpy
                      by_cases h : p = 40 * b + y + k
                      · subst h
                        rw [if_pos rfl, if_neg (by omega), if_pos (by omega)]
                        congr 1
                        omega
                      · by_cases h2 : 40 * b + y ≤ p ∧ p < 40 * b + y + k
                        · rw [if_neg h, if_pos h2, if_pos (by omega)]
                        · rw [if_neg h, if_neg h2, if_neg (by omega)]
                    have L : ∀ (c k : Nat) (z : Option Value), k + c = m → Go 101 [some (.ref 0), some (.int (nI a)), some (.int (nI x)), some (.int (nI b)), some (.int (nI y)), some (.int (nI m)), some (.int (nI 0)), some (.int (nI k)), z] [] (mH I (va_up F 4 (va_cpy (F 4) (F 4) (40 * a + x) (40 * b + y) k)) S.2.2.2.2.2.2.1 S.2.2.2.2.2.2.2) 0 0 := by
                      intro c
                      induction c with
                      | zero =>
                        intro k z hk
                        refine hG 200 _ _ _ _ _ _ ?_
                        refine br_t (nI_le (by omega) (by omega)) ?_
                        have hk : k = m := by omega
                        subst hk
                        exact ⟨rfl, rfl, rfl, rfl⟩
                      | succ c ih =>
                        intro k z hk
                        refine hG 200 _ _ _ _ _ _ ?_
                        refine br_f (nI_ge (by omega) (by omega)) ?_
                        refine br_t rfl ?_
                        refine Exists.intro (40 * a + x + k) ⟨by omega, by rw [nI_idx, nI_add], ?_⟩
                        refine Exists.intro (40 * b + y + k) ⟨by omega, by rw [nI_idx, nI_add], ?_⟩
                        have h9 := ih (k + 1) (some (.int (nI k))) (by omega)
                        rw [← nI_s1 k, ← e k (by omega)] at h9
                        exact h9
                    refine hG 200 _ _ _ _ _ _ ?_
                    have h9 := L m 0 none (by omega)
                    rw [cpy0, va_up_same] at h9
                    exact h9
                  · have hc := w1 rfl
                    have e : ∀ k, k < m → upd (va_cpy (F 4) (F 4) (40 * a + x + (m - k)) (40 * b + y + (m - k)) k) (40 * b + y + (m - 1 - k)) (va_cpy (F 4) (F 4) (40 * a + x + (m - k)) (40 * b + y + (m - k)) k (40 * a + x + (m - 1 - k))) = va_cpy (F 4) (F 4) (40 * a + x + (m - (k + 1))) (40 * b + y + (m - (k + 1))) (k + 1) := by
                      intro k hk
                      funext p
                      unfold upd va_cpy
                      by_cases h : p = 40 * b + y + (m - 1 - k)
                      · subst h
                        rw [if_pos rfl, if_neg (by omega), if_pos (by omega)]
                        congr 1
                        omega
                      · by_cases h2 : 40 * b + y + (m - k) ≤ p ∧ p < 40 * b + y + (m - k) + k
                        · rw [if_neg h, if_pos h2, if_pos (by omega)]
                          congr 1
                          omega
                        · rw [if_neg h, if_neg h2, if_neg (by omega)]
                    have L : ∀ (c k : Nat) (z : Option Value), k + c = m → Go 101 [some (.ref 0), some (.int (nI a)), some (.int (nI x)), some (.int (nI b)), some (.int (nI y)), some (.int (nI m)), some (.int (nI 1)), some (.int (nI k)), z] [] (mH I (va_up F 4 (va_cpy (F 4) (F 4) (40 * a + x + (m - k)) (40 * b + y + (m - k)) k)) S.2.2.2.2.2.2.1 S.2.2.2.2.2.2.2) 0 0 := by
                      intro c
                      induction c with
                      | zero =>
                        intro k z hk
                        refine hG 200 _ _ _ _ _ _ ?_
                        refine br_t (nI_le (by omega) (by omega)) ?_
                        have hk : k = m := by omega
                        subst hk
                        refine ⟨rfl, ?_, rfl, rfl⟩
                        rw [Nat.sub_self]
                        rfl
                      | succ c ih =>
                        intro k z hk
                        have em : nI m - nI 1 - nI k = nI (m - 1 - k) := by rw [pk_sub (by omega), pk_sub (by omega)]
                        refine hG 200 _ _ _ _ _ _ ?_
                        refine br_f (nI_ge (by omega) (by omega)) ?_
                        refine br_f (by decide) ?_
                        refine Exists.intro (40 * a + x + (m - 1 - k)) ⟨by omega, by rw [em, nI_idx, nI_add], ?_⟩
                        refine Exists.intro (40 * b + y + (m - 1 - k)) ⟨by omega, by rw [em, nI_idx, nI_add], ?_⟩
                        have h9 := ih (k + 1) (some (.int (nI m - nI 1 - nI k))) (by omega)
                        rw [← nI_s1 k, ← e k (by omega)] at h9
                        exact h9
                    refine hG 200 _ _ _ _ _ _ ?_
                    have h9 := L m 0 none (by omega)
                    rw [cpy0, va_up_same] at h9
                    exact h9
                refine hG 200 _ _ _ _ _ _ ?_
                refine Exists.intro 1 (Exists.intro _ (Exists.intro _ ⟨by decide, hc1, ?_⟩))
                refine br_f (by decide) ?_
                refine Exists.intro 1 (Exists.intro _ (Exists.intro _ ⟨by decide, hc2, ?_⟩))
                refine bn_t (by decide) ?_
                refine br_t (Int32.not_lt.mp h3) ?_
                refine Exists.intro a ⟨by omega, rfl, ?_⟩
                refine br_f (by rw [hs1]; exact g1) ?_
                refine Exists.intro b ⟨by omega, rfl, ?_⟩
                refine br_t (by rw [hs2]; exact Int32.not_lt.mp g2) ?_
                refine Exists.intro 0 (Exists.intro _ (Exists.intro _ ⟨by decide, hq1, ?_⟩))
                refine br_f (by decide) ?_
                refine Exists.intro 0 (Exists.intro _ (Exists.intro _ ⟨by decide, hq2, ?_⟩))
                refine bn_t (by decide) ?_
                by_cases hab : a = b
                · refine bn_f (by rw [hab]) ?_
                  by_cases hxy : x < y
                  · refine br_f (nI_ge hxy (by omega)) ?_
                    exact hback (nI 1) (fun q => absurd q (by decide)) (fun _ => ⟨hab, hxy⟩) (Or.inr rfl)
                  · refine br_t (nI_le (by omega) (by omega)) ?_
                    exact hback (nI 0) (fun _ q => hxy q.2) (fun q => absurd q (by decide)) (Or.inl rfl)
                · refine bn_t (fun q => hab ((nI_eq (by omega) (by omega)).mp q)) ?_
                  exact hback (nI 0) (fun _ q => hab q.1) (fun q => absurd q (by decide)) (Or.inl rfl)

theorem pc_T_copy (S : Sta) (hp : List Am_C) (h : RC S hp) (r i t j n : Int32) : ∃ hp', Am_Ev false 6 0 0 20 [.ref 0, .int r, .int i, .int t, .int j, .int n] hp (some (.int (spCopy S r i t j n).1)) hp' ∧ RC (spCopy S r i t j n).2 hp' := by
  obtain ⟨I, F, rfl, hx⟩ := h
  obtain ⟨hs, hr, ht, hl⟩ := id hx
  unfold spCopy
  cases ho : okR r with
  | false =>
    rw [if_pos rfl]
    have hc1 := c_T_isRow (cH I F S.2.2.2.2.2.2.1 S.2.2.2.2.2.2.2) r
    rw [show in3 r (nI 0) (nI 5) = false from ho] at hc1
    refine ⟨_, am_ev 6 (some .int) false [] ok_T_copy am_mP_20 (by rw [am_m_20]) (by rw [am_m_20]) (fun h => by cases h) (Nat.le_of_ble_eq_true rfl) (fun Go hG => ?_), RC_of hx⟩
    refine hG 200 _ _ _ _ _ _ ?_
    refine Exists.intro 0 (Exists.intro _ (Exists.intro _ ⟨by decide, hc1, ?_⟩))
    refine br_t rfl ?_
    exact ⟨rfl, rfl, rfl, rfl⟩
  | true =>
    rw [if_neg (by decide)]
    obtain ⟨a, -, ha, rfl⟩ := in3_nat (by decide) (by decide) ho
    rw [nat_nI (by omega)]
    have hc1 := c_T_isRow (cH I F S.2.2.2.2.2.2.1 S.2.2.2.2.2.2.2) (nI a)
    rw [in3_nI (by omega) (by omega) ha] at hc1
    cases ho2 : okR t with
    | false =>
      rw [if_pos rfl]
      have hc2 := c_T_isRow (cH I F S.2.2.2.2.2.2.1 S.2.2.2.2.2.2.2) t
      rw [show in3 t (nI 0) (nI 5) = false from ho2] at hc2
      refine ⟨_, am_ev 6 (some .int) false [] ok_T_copy am_mP_20 (by rw [am_m_20]) (by rw [am_m_20]) (fun h => by cases h) (Nat.le_of_ble_eq_true rfl) (fun Go hG => ?_), RC_of hx⟩
      refine hG 200 _ _ _ _ _ _ ?_
      refine Exists.intro 0 (Exists.intro _ (Exists.intro _ ⟨by decide, hc1, ?_⟩))
      refine br_f (by decide) ?_
      refine Exists.intro 0 (Exists.intro _ (Exists.intro _ ⟨by decide, hc2, ?_⟩))
      refine bn_f rfl ?_
      exact ⟨rfl, rfl, rfl, rfl⟩
    | true =>
      rw [if_neg (by decide)]
      obtain ⟨b, -, hb, rfl⟩ := in3_nat (by decide) (by decide) ho2
      rw [nat_nI (by omega)]
      have hc2 := c_T_isRow (cH I F S.2.2.2.2.2.2.1 S.2.2.2.2.2.2.2) (nI b)
      rw [in3_nI (by omega) (by omega) hb] at hc2
      by_cases h3 : n < 0
      · rw [if_pos h3]
        refine ⟨_, am_ev 6 (some .int) false [] ok_T_copy am_mP_20 (by rw [am_m_20]) (by rw [am_m_20]) (fun h => by cases h) (Nat.le_of_ble_eq_true rfl) (fun Go hG => ?_), RC_fnd hx (by decide)⟩
        refine hG 200 _ _ _ _ _ _ ?_
        refine Exists.intro 0 (Exists.intro _ (Exists.intro _ ⟨by decide, hc1, ?_⟩))
        refine br_f (by decide) ?_
        refine Exists.intro 0 (Exists.intro _ (Exists.intro _ ⟨by decide, hc2, ?_⟩))
        refine bn_t (by decide) ?_
        refine br_f (Int32.not_le.mpr h3) ?_
        refine Exists.intro 0 (Exists.intro _ (Exists.intro _ ⟨by decide, c_T_found I F S.2.2.2.2.2.2.1 S.2.2.2.2.2.2.2 5 (by decide), ?_⟩))
        exact ⟨rfl, rfl, rfl, rfl⟩
      · rw [if_neg h3]
        obtain ⟨r1, r2, r3⟩ := hr a (by omega)
        obtain ⟨t1, t2, t3⟩ := hr b (by omega)
        have hs1 : I (60 + a) = rz S a := r1
        have hs2 : I (60 + b) = rz S b := t1
        by_cases g1 : rz S a < 0
        · rw [if_pos g1]
          have hm1 := c_S_isMissing (cH I F S.2.2.2.2.2.2.1 S.2.2.2.2.2.2.2) (18 + 2 * a) _ _ (cH_row (by omega))
          rw [hs1, decide_eq_true g1] at hm1
          
          refine ⟨_, am_ev 6 (some .int) false [] ok_T_copy am_mP_20 (by rw [am_m_20]) (by rw [am_m_20]) (fun h => by cases h) (Nat.le_of_ble_eq_true rfl) (fun Go hG => ?_), RC_fnd hx (by decide)⟩
          refine hG 200 _ _ _ _ _ _ ?_
          refine Exists.intro 0 (Exists.intro _ (Exists.intro _ ⟨by decide, hc1, ?_⟩))
          refine br_f (by decide) ?_
          refine Exists.intro 0 (Exists.intro _ (Exists.intro _ ⟨by decide, hc2, ?_⟩))
          refine bn_t (by decide) ?_
          refine br_t (Int32.not_lt.mp h3) ?_
          refine Exists.intro a (Exists.intro (18 + 2 * a) ⟨by omega, rfl, rfR_at (by omega), ?_⟩)
          refine am_vt (cH_row (by omega)) rfl ?_
          refine Exists.intro 0 (Exists.intro _ (Exists.intro _ ⟨by decide, hm1, ?_⟩))
          refine bn_t (by decide) ?_
          refine Exists.intro 0 (Exists.intro _ (Exists.intro _ ⟨by decide, c_T_found I F S.2.2.2.2.2.2.1 S.2.2.2.2.2.2.2 1 (by decide), ?_⟩))
          exact ⟨rfl, rfl, rfl, rfl⟩
        · rw [if_neg g1]
          have hm1 := c_S_isMissing (cH I F S.2.2.2.2.2.2.1 S.2.2.2.2.2.2.2) (18 + 2 * a) _ _ (cH_row (by omega))
          rw [hs1, decide_eq_false g1] at hm1
          
          by_cases g2 : rz S b < 0
          · rw [if_pos g2]
            have hm2 := c_S_isMissing (cH I F S.2.2.2.2.2.2.1 S.2.2.2.2.2.2.2) (18 + 2 * b) _ _ (cH_row (by omega))
            rw [hs2, decide_eq_true g2] at hm2
            
            refine ⟨_, am_ev 6 (some .int) false [] ok_T_copy am_mP_20 (by rw [am_m_20]) (by rw [am_m_20]) (fun h => by cases h) (Nat.le_of_ble_eq_true rfl) (fun Go hG => ?_), RC_fnd hx (by decide)⟩
            refine hG 200 _ _ _ _ _ _ ?_
            refine Exists.intro 0 (Exists.intro _ (Exists.intro _ ⟨by decide, hc1, ?_⟩))
            refine br_f (by decide) ?_
            refine Exists.intro 0 (Exists.intro _ (Exists.intro _ ⟨by decide, hc2, ?_⟩))
            refine bn_t (by decide) ?_
            refine br_t (Int32.not_lt.mp h3) ?_
            refine Exists.intro a (Exists.intro (18 + 2 * a) ⟨by omega, rfl, rfR_at (by omega), ?_⟩)
            refine am_vt (cH_row (by omega)) rfl ?_
            refine Exists.intro 0 (Exists.intro _ (Exists.intro _ ⟨by decide, hm1, ?_⟩))
            refine bn_f rfl ?_
            refine Exists.intro b (Exists.intro (18 + 2 * b) ⟨by omega, rfl, rfR_at (by omega), ?_⟩)
            refine am_vt (cH_row (by omega)) rfl ?_
            refine Exists.intro 0 (Exists.intro _ (Exists.intro _ ⟨by decide, hm2, ?_⟩))
            refine br_f (by decide) ?_
            refine Exists.intro 0 (Exists.intro _ (Exists.intro _ ⟨by decide, c_T_found I F S.2.2.2.2.2.2.1 S.2.2.2.2.2.2.2 1 (by decide), ?_⟩))
            exact ⟨rfl, rfl, rfl, rfl⟩
          · rw [if_neg g2]
            have hm2 := c_S_isMissing (cH I F S.2.2.2.2.2.2.1 S.2.2.2.2.2.2.2) (18 + 2 * b) _ _ (cH_row (by omega))
            rw [hs2, decide_eq_false g2] at hm2
            
            have r2' : szOk 40 (rz S a) := r2
            have t2' : szOk 40 (rz S b) := t2
            rcases szOk_neg (by decide) r2' with ⟨-, z, -⟩ | ⟨ka, hka, ea, -, -⟩
            · exact absurd z g1
            rcases szOk_neg (by decide) t2' with ⟨-, z, -⟩ | ⟨kb, hkb, eb, -, -⟩
            · exact absurd z g2
            have hP1 : hprI (rz S a) i n = prtB (rz S a) i n := by rw [ea]; exact hpr_prt hka h3
            have hP2 : hprI (rz S b) j n = prtB (rz S b) j n := by rw [eb]; exact hpr_prt hkb h3
            cases p1 : prtB (rz S a) i n with
            | false =>
              rw [if_pos rfl]
              have hq1 := c_S_hasPart (cH I F S.2.2.2.2.2.2.1 S.2.2.2.2.2.2.2) (18 + 2 * a) _ _ (cH_row (by omega)) i n
              rw [hs1, hP1, p1] at hq1
              
              refine ⟨_, am_ev 6 (some .int) false [] ok_T_copy am_mP_20 (by rw [am_m_20]) (by rw [am_m_20]) (fun h => by cases h) (Nat.le_of_ble_eq_true rfl) (fun Go hG => ?_), RC_fnd hx (by decide)⟩
              refine hG 200 _ _ _ _ _ _ ?_
              refine Exists.intro 0 (Exists.intro _ (Exists.intro _ ⟨by decide, hc1, ?_⟩))
              refine br_f (by decide) ?_
              refine Exists.intro 0 (Exists.intro _ (Exists.intro _ ⟨by decide, hc2, ?_⟩))
              refine bn_t (by decide) ?_
              refine br_t (Int32.not_lt.mp h3) ?_
              refine Exists.intro a (Exists.intro (18 + 2 * a) ⟨by omega, rfl, rfR_at (by omega), ?_⟩)
              refine am_vt (cH_row (by omega)) rfl ?_
              refine Exists.intro 0 (Exists.intro _ (Exists.intro _ ⟨by decide, hm1, ?_⟩))
              refine bn_f rfl ?_
              refine Exists.intro b (Exists.intro (18 + 2 * b) ⟨by omega, rfl, rfR_at (by omega), ?_⟩)
              refine am_vt (cH_row (by omega)) rfl ?_
              refine Exists.intro 0 (Exists.intro _ (Exists.intro _ ⟨by decide, hm2, ?_⟩))
              refine br_t rfl ?_
              refine Exists.intro a (Exists.intro (18 + 2 * a) ⟨by omega, rfl, rfR_at (by omega), ?_⟩)
              refine am_vt (cH_row (by omega)) rfl ?_
              refine Exists.intro 0 (Exists.intro _ (Exists.intro _ ⟨by decide, hq1, ?_⟩))
              refine br_t rfl ?_
              refine Exists.intro 0 (Exists.intro _ (Exists.intro _ ⟨by decide, c_T_found I F S.2.2.2.2.2.2.1 S.2.2.2.2.2.2.2 2 (by decide), ?_⟩))
              exact ⟨rfl, rfl, rfl, rfl⟩
            | true =>
              rw [if_neg (by decide)]
              have hq1 := c_S_hasPart (cH I F S.2.2.2.2.2.2.1 S.2.2.2.2.2.2.2) (18 + 2 * a) _ _ (cH_row (by omega)) i n
              rw [hs1, hP1, p1] at hq1
              
              cases p2 : prtB (rz S b) j n with
              | false =>
                rw [if_pos rfl]
                have hq2 := c_S_hasPart (cH I F S.2.2.2.2.2.2.1 S.2.2.2.2.2.2.2) (18 + 2 * b) _ _ (cH_row (by omega)) j n
                rw [hs2, hP2, p2] at hq2
                
                refine ⟨_, am_ev 6 (some .int) false [] ok_T_copy am_mP_20 (by rw [am_m_20]) (by rw [am_m_20]) (fun h => by cases h) (Nat.le_of_ble_eq_true rfl) (fun Go hG => ?_), RC_fnd hx (by decide)⟩
                refine hG 200 _ _ _ _ _ _ ?_
                refine Exists.intro 0 (Exists.intro _ (Exists.intro _ ⟨by decide, hc1, ?_⟩))
                refine br_f (by decide) ?_
                refine Exists.intro 0 (Exists.intro _ (Exists.intro _ ⟨by decide, hc2, ?_⟩))
                refine bn_t (by decide) ?_
                refine br_t (Int32.not_lt.mp h3) ?_
                refine Exists.intro a (Exists.intro (18 + 2 * a) ⟨by omega, rfl, rfR_at (by omega), ?_⟩)
                refine am_vt (cH_row (by omega)) rfl ?_
                refine Exists.intro 0 (Exists.intro _ (Exists.intro _ ⟨by decide, hm1, ?_⟩))
                refine bn_f rfl ?_
                refine Exists.intro b (Exists.intro (18 + 2 * b) ⟨by omega, rfl, rfR_at (by omega), ?_⟩)
                refine am_vt (cH_row (by omega)) rfl ?_
                refine Exists.intro 0 (Exists.intro _ (Exists.intro _ ⟨by decide, hm2, ?_⟩))
                refine br_t rfl ?_
                refine Exists.intro a (Exists.intro (18 + 2 * a) ⟨by omega, rfl, rfR_at (by omega), ?_⟩)
                refine am_vt (cH_row (by omega)) rfl ?_
                refine Exists.intro 0 (Exists.intro _ (Exists.intro _ ⟨by decide, hq1, ?_⟩))
                refine br_f (by decide) ?_
                refine Exists.intro b (Exists.intro (18 + 2 * b) ⟨by omega, rfl, rfR_at (by omega), ?_⟩)
                refine am_vt (cH_row (by omega)) rfl ?_
                refine Exists.intro 0 (Exists.intro _ (Exists.intro _ ⟨by decide, hq2, ?_⟩))
                refine bn_f rfl ?_
                refine Exists.intro 0 (Exists.intro _ (Exists.intro _ ⟨by decide, c_T_found I F S.2.2.2.2.2.2.1 S.2.2.2.2.2.2.2 2 (by decide), ?_⟩))
                exact ⟨rfl, rfl, rfl, rfl⟩
              | true =>
                rw [if_neg (by decide)]
                have hq2 := c_S_hasPart (cH I F S.2.2.2.2.2.2.1 S.2.2.2.2.2.2.2) (18 + 2 * b) _ _ (cH_row (by omega)) j n
                rw [hs2, hP2, p2] at hq2
                
                have q1 := p1
                have q2 := p2
                rw [ea] at q1
                rw [eb] at q2
                obtain ⟨x, m, rfl, rfl, hxm⟩ := prtB_nat hka h3 q1
                obtain ⟨y, m', rfl, hmm, hym⟩ := prtB_nat hkb h3 q2
                have hmm2 : m = m' := by
                  by_cases h40 : m ≤ 40 ∧ m' ≤ 40
                  · exact (nI_eq (by omega) (by omega)).mp hmm
                  · omega
                subst hmm2
                rw [nat_nI (by omega), nat_nI (by omega), nat_nI (by omega)]
                have hna : nat (S.2.1.1 a) = ka := by
                  have ea' : S.2.1.1 a = nI ka := ea
                  rw [ea', nat_nI (by omega)]
                have hx2 : RCx I (va_up F (19 + 2 * b) (va_cpy (F (19 + 2 * a)) (F (19 + 2 * b)) x y m)) (sR S (S.2.1.1, cpy2 S.2.1.2 a x b y m)) := by
                  refine ⟨skyC_congr hs (fun _ _ => rfl) (fun z hz => va_up_ne _ _ (by omega)), fun q hq => ?_, txtC_congr ht (fun _ _ => rfl) (fun z hz => va_up_ne _ _ (by omega)), hl.1, hl.2.1, ?_⟩
                  · obtain ⟨z1, z2, z3⟩ := hr q hq
                    refine ⟨z1, z2, fun c hc => ?_⟩
                    show va_up F (19 + 2 * b) (va_cpy (F (19 + 2 * a)) (F (19 + 2 * b)) x y m) (19 + 2 * q) c = cpy2 S.2.1.2 a x b y m q c
                    unfold cpy2
                    by_cases hqb : q = b
                    · subst hqb
                      rw [va_up_self]
                      unfold va_cpy
                      by_cases h : y ≤ c ∧ c < y + m
                      · rw [if_pos h, if_pos ⟨rfl, h⟩]
                        have := r3 (x + (c - y)) (by rw [hna]; omega)
                        exact this
                      · rw [if_neg h, if_neg (fun w => h w.2)]
                        exact z3 c hc
                    · rw [va_up_ne _ _ (by omega), if_neg (fun w => hqb w.1)]
                      exact z3 c hc
                  · intro f hf
                    rw [va_up_ne _ _ (by omega)]
                    exact hl.2.2 f hf
                refine ⟨_, am_ev 6 (some .int) false [] ok_T_copy am_mP_20 (by rw [am_m_20]) (by rw [am_m_20]) (fun h => by cases h) (Nat.le_of_ble_eq_true rfl) (fun Go hG => ?_), RC_of hx2⟩
                refine hG 200 _ _ _ _ _ _ ?_
                refine Exists.intro 0 (Exists.intro _ (Exists.intro _ ⟨by decide, hc1, ?_⟩))
                refine br_f (by decide) ?_
                refine Exists.intro 0 (Exists.intro _ (Exists.intro _ ⟨by decide, hc2, ?_⟩))
                refine bn_t (by decide) ?_
                refine br_t (Int32.not_lt.mp h3) ?_
                refine Exists.intro a (Exists.intro (18 + 2 * a) ⟨by omega, rfl, rfR_at (by omega), ?_⟩)
                refine am_vt (cH_row (by omega)) rfl ?_
                refine Exists.intro 0 (Exists.intro _ (Exists.intro _ ⟨by decide, hm1, ?_⟩))
                refine bn_f rfl ?_
                refine Exists.intro b (Exists.intro (18 + 2 * b) ⟨by omega, rfl, rfR_at (by omega), ?_⟩)
                refine am_vt (cH_row (by omega)) rfl ?_
                refine Exists.intro 0 (Exists.intro _ (Exists.intro _ ⟨by decide, hm2, ?_⟩))
                refine br_t rfl ?_
                refine Exists.intro a (Exists.intro (18 + 2 * a) ⟨by omega, rfl, rfR_at (by omega), ?_⟩)
                refine am_vt (cH_row (by omega)) rfl ?_
                refine Exists.intro 0 (Exists.intro _ (Exists.intro _ ⟨by decide, hq1, ?_⟩))
                refine br_f (by decide) ?_
                refine Exists.intro b (Exists.intro (18 + 2 * b) ⟨by omega, rfl, rfR_at (by omega), ?_⟩)
                refine am_vt (cH_row (by omega)) rfl ?_
                refine Exists.intro 0 (Exists.intro _ (Exists.intro _ ⟨by decide, hq2, ?_⟩))
                refine bn_t (by decide) ?_
                refine Exists.intro a (Exists.intro (18 + 2 * a) ⟨by omega, rfl, rfR_at (by omega), ?_⟩)
                refine am_ob_of (cH_row (by omega)) ?_
                refine Exists.intro b (Exists.intro (18 + 2 * b) ⟨by omega, rfl, rfR_at (by omega), ?_⟩)
                refine am_ob_of (cH_row (by omega)) ?_
                refine am_ai_of (cH_rowc (by omega)) rfl ?_
                refine am_ai_of (cH_rowc (by omega)) rfl ?_
                refine Exists.intro m (Exists.intro y (Exists.intro x ⟨rfl, rfl, rfl, by omega, by omega, ?_⟩))
                exact ⟨rfl, cH_rowcs (by omega) _, rfl, rfl⟩
end
section
/-! ===== deeds: what they come to; the reference's row of thirteen ===== -/
def eN (S : Sta) : Nat := S.1.1
def eK (S : Sta) : Nat → Nat := S.1.2.1
def eE (S : Sta) : Evn := S.1.2.2.1
def eP (S : Sta) : Nat → Option Evn := S.1.2.2.2
def duE (E : Evn) : Nat → Nat := E.2.1 E.1
def thE (E : Evn) : Nat → Nat := E.2.2.1 E.1
def btE (E : Evn) : Nat := E.2.2.2 E.1
def pushE (E : Evn) (d t : Nat → Nat) (b : Nat) : Evn := (E.1 + 1, fun q => if q = E.1 + 1 then d else E.2.1 q, fun q => if q = E.1 + 1 then t else E.2.2.1 q, fun q => if q = E.1 + 1 then b else E.2.2.2 q)
def sE (S : Sta) (E : Evn) : Sta := sK S (eN S, eK S, E, eP S)
def incS (t : Nat → Nat) (i : Nat) : Nat → Nat := fun k => t k + (if k = i then 1 else 0)
def tossE (n : Nat) (kd : Nat → Nat) (E : Evn) (h : Nat) : Evn := pushE E (tosS n kd (duE E) h) (incS (thE E) (dueS n (duE E))) (btE E + 1)
def restE (E : Evn) : Evn := pushE E (latS 1 (duE E)) (thE E) (btE E + 1)
def exchE (E : Evn) (i j : Nat) : Evn := pushE E (swpS (duE E) i j) (thE E) (btE E)
def noneE (E : Evn) : Evn := pushE E (duE E) (thE E) (btE E)
theorem push_du (E : Evn) (d t : Nat → Nat) (b : Nat) : duE (pushE E d t b) = d := by
  show (if E.1 + 1 = E.1 + 1 then d else E.2.1 (E.1 + 1)) = d
  rw [if_pos rfl]
theorem push_th (E : Evn) (d t : Nat → Nat) (b : Nat) : thE (pushE E d t b) = t := by
  show (if E.1 + 1 = E.1 + 1 then t else E.2.2.1 (E.1 + 1)) = t
  rw [if_pos rfl]
theorem push_bt (E : Evn) (d t : Nat → Nat) (b : Nat) : btE (pushE E d t b) = b := by
  show (if E.1 + 1 = E.1 + 1 then b else E.2.2.2 (E.1 + 1)) = b
  rw [if_pos rfl]
theorem push_old {E : Evn} {d t : Nat → Nat} {b q : Nat} (h : q ≤ E.1) : (pushE E d t b).2.1 q = E.2.1 q ∧ (pushE E d t b).2.2.1 q = E.2.2.1 q ∧ (pushE E d t b).2.2.2 q = E.2.2.2 q := by
  have hq : ¬ q = E.1 + 1 := by omega
  exact ⟨if_neg hq, if_neg hq, if_neg hq⟩
theorem gdE_push {n : Nat} {E : Evn} {d t : Nat → Nat} {b : Nat} (h : gdE n E) (hd : apart n d) : gdE n (pushE E d t b) := by
  intro q hq
  have hq' : q ≤ E.1 + 1 := hq
  by_cases hqe : q = E.1 + 1
  · have e : (pushE E d t b).2.1 q = d := if_pos hqe
    rw [e]
    exact hd
  · rw [(push_old (by omega)).1]
    exact h q (by omega)
theorem evM_congr {w w' : Nat → Int32} {o n : Nat} {E : Evn} (h : evM w o n E) (hn : n ≤ 6) (e : ∀ j, o ≤ j → j < o + 534 → w' j = w j) : evM w' o n E := by
  obtain ⟨h1, h2, h3, h4, h5⟩ := h
  refine ⟨h1, by rw [e _ (by omega) (by omega)]; exact h2, fun k hk => by rw [e _ (by omega) (by omega), e _ (by omega) (by omega)]; exact h3 k hk, by rw [e _ (by omega) (by omega)]; exact h4, fun d hd => ⟨fun k hk => ?_, ?_⟩⟩
  · rw [e _ (by omega) (by omega), e _ (by omega) (by omega)]
    exact (h5 d hd).1 k hk
  · rw [e _ (by omega) (by omega)]
    exact (h5 d hd).2
theorem remW_lo {w : Nat → Int32} {m j : Nat} (hj : j < 13) : remW w m j = w j := by
  unfold remW
  rw [pk_un (by omega), pk_cpy_out (by omega)]
theorem remW_hi {w : Nat → Int32} {m j : Nat} (hm : m < 40) (hj : 534 ≤ j) : remW w m j = w j := by
  unfold remW
  rw [pk_un (by omega), pk_cpy_out (by omega)]
theorem evM_push {w w2 : Nat → Int32} {n : Nat} {E : Evn} {d t : Nat → Nat} {b : Nat} (h : evM w 0 n E) (hn : n ≤ 6) (hm : E.1 < 40) (e : ∀ j, 13 ≤ j → w2 j = remW w E.1 j) (h1 : ∀ k, k < n → w2 k = nI (d k) ∧ w2 (6 + k) = nI (t k)) (h2 : w2 12 = nI b) : evM w2 0 n (pushE E d t b) := by
  obtain ⟨g1, g2, g3, g4, g5⟩ := h
  simp only [Nat.zero_add] at g2 g3 g4 g5
  refine ⟨by show E.1 + 1 ≤ 40; omega, ?_, fun k hk => ?_, ?_, fun q hq => ?_⟩
  · rw [Nat.zero_add, e 533 (by omega)]
    show remW w E.1 533 = nI (E.1 + 1)
    unfold remW
    rw [pk_us, pk_cpy_out (by omega), g2, nI_s1]
  · have e1 : (pushE E d t b).2.1 (pushE E d t b).1 = d := push_du E d t b
    have e2 : (pushE E d t b).2.2.1 (pushE E d t b).1 = t := push_th E d t b
    rw [e1, e2, Nat.zero_add, Nat.zero_add]
    exact h1 k hk
  · have e1 : (pushE E d t b).2.2.2 (pushE E d t b).1 = b := push_bt E d t b
    rw [e1, Nat.zero_add]
    exact h2
  · have hq' : q < E.1 + 1 := hq
    obtain ⟨o1, o2, o3⟩ := push_old (E := E) (d := d) (t := t) (b := b) (q := q) (by omega)
    rw [o1, o2, o3]
    have hr : ∀ k, k < 13 → w2 (0 + 13 + 13 * q + k) = remW w E.1 (13 + 13 * q + k) := by
      intro k hk
      rw [e _ (by omega), show 0 + 13 + 13 * q + k = 13 + 13 * q + k by omega]
    by_cases hqe : q = E.1
    · have hc : ∀ k, k < 13 → remW w E.1 (13 + 13 * q + k) = w k := by
        intro k hk
        unfold remW
        rw [pk_un (by omega), pk_cpy_in (by omega) (by omega)]
        congr 1
        omega
      rw [hqe] at hc hr ⊢
      refine ⟨fun k hk => ⟨?_, ?_⟩, ?_⟩
      · rw [hr k (by omega), hc k (by omega)]
        exact (g3 k hk).1
      · have := hr (6 + k) (by omega)
        rw [show 0 + 13 + 13 * E.1 + 6 + k = 0 + 13 + 13 * E.1 + (6 + k) by omega, this, hc (6 + k) (by omega)]
        exact (g3 k hk).2
      · rw [hr 12 (by omega), hc 12 (by omega)]
        exact g4
    · have hc : ∀ k, k < 13 → remW w E.1 (13 + 13 * q + k) = w (13 + 13 * q + k) := by
        intro k hk
        unfold remW
        rw [pk_un (by omega), pk_cpy_out (by omega)]
      have g6 := g5 q (by omega)
      refine ⟨fun k hk => ⟨?_, ?_⟩, ?_⟩
      · rw [hr k (by omega), hc k (by omega)]
        exact (g6.1 k hk).1
      · have := hr (6 + k) (by omega)
        rw [show 0 + 13 + 13 * q + 6 + k = 0 + 13 + 13 * q + (6 + k) by omega, this, hc (6 + k) (by omega), show 13 + 13 * q + (6 + k) = 13 + 13 * q + 6 + k by omega]
        exact (g6.1 k hk).2
      · rw [hr 12 (by omega), hc 12 (by omega)]
        exact g6.2
theorem latF_at {w : Nat → Int32} {x n k : Nat} (hk : k < n) (hn : n ≤ 6) : latF w x n (x + k) = w (x + k) - nI 1 := by
  unfold latF
  rw [pk_un (by omega)]
  unfold latW
  rw [if_pos (by omega)]
theorem latF_th {w : Nat → Int32} {x n k : Nat} (hk : k < 6) (hn : n ≤ 6) : latF w x n (x + 6 + k) = w (x + 6 + k) := by
  unfold latF
  rw [pk_un (by omega)]
  unfold latW
  rw [if_neg (by omega)]
theorem latF_bt {w : Nat → Int32} {x n : Nat} (hn : n ≤ 6) : latF w x n (x + 12) = w (x + 12) + nI 1 := by
  unfold latF
  rw [pk_us]
  unfold latW
  rw [if_neg (by omega)]
theorem latF_out {w : Nat → Int32} {x n j : Nat} (hn : n ≤ 6) (hj : j < x ∨ x + 13 ≤ j) : latF w x n j = w j := by
  unfold latF
  rw [pk_un (by omega)]
  unfold latW
  rw [if_neg (by omega)]
theorem tosW_at {w kf : Nat → Int32} {x n i k : Nat} {h : Int32} (hk : k < n) (hn : n ≤ 6) (hi : i < n) : tosW w kf x n i h (x + k) = (if k = i then landI (kf i) h else w (x + k)) - nI 1 := by
  unfold tosW
  rw [latF_at hk hn, pk_un (by omega)]
  unfold upd
  by_cases hki : k = i
  · rw [if_pos (by omega), if_pos hki]
  · rw [if_neg (by omega), if_neg hki]
theorem tosW_th {w kf : Nat → Int32} {x n i k : Nat} {h : Int32} (hk : k < 6) (hn : n ≤ 6) (hi : i < n) : tosW w kf x n i h (x + 6 + k) = if k = i then w (x + 6 + k) + nI 1 else w (x + 6 + k) := by
  unfold tosW
  rw [latF_th hk hn]
  by_cases hki : k = i
  · rw [if_pos hki, hki, pk_us]
  · rw [if_neg hki, pk_un (by omega), pk_un (by omega)]
theorem tosW_bt {w kf : Nat → Int32} {x n i : Nat} {h : Int32} (hn : n ≤ 6) (hi : i < n) : tosW w kf x n i h (x + 12) = w (x + 12) + nI 1 := by
  unfold tosW
  rw [latF_bt hn, pk_un (by omega), pk_un (by omega)]
theorem tosW_out {w kf : Nat → Int32} {x n i j : Nat} {h : Int32} (hn : n ≤ 6) (hi : i < n) (hj : j < x ∨ x + 13 ≤ j) : tosW w kf x n i h j = w j := by
  unfold tosW
  rw [latF_out hn hj, pk_un (by omega), pk_un (by omega)]
/-- a throw on naturals -/
theorem tosW_S {w kf : Nat → Int32} {x n i h : Nat} {du kd : Nat → Nat} (hw : ∀ k, k < n → w (x + k) = nI (du k)) (hkf : kf i = nI (kd i)) (hn : n ≤ 6) (hi : i < n) (hk6 : kd i < 6) (hh : 1 ≤ h ∧ h ≤ 7) (hv : lnd (kd i) h ≠ 0) (hp : ∀ k, k < n → 1 ≤ setS du i (lnd (kd i) h) k) : ∀ k, k < n → tosW w kf x n i (nI h) (x + k) = nI (latS 1 (setS du i (lnd (kd i) h)) k) := by
  intro k hk
  rw [tosW_at hk hn hi, hkf, landI_S hk6 hh]
  have h1 := hp k hk
  show _ = nI (setS du i (lnd (kd i) h) k - 1)
  rw [← pk_sub h1]
  congr 1
  unfold setS
  by_cases hki : k = i
  · rw [if_pos hki, if_pos hki]
    unfold ldR
    rw [if_neg hv]
  · rw [if_neg hki, if_neg hki]
    exact hw k hk
def spToss (S : Sta) (h : Int32) : Int32 × Sta := if okH h = false then (-nI 1, S) else if mayS (eN S) (eK S) (duE (eE S)) h = false then (-nI 4, S) else if (eE S).1 = 40 then (-nI 2, S) else (skyS (eN S) (tosS (eN S) (eK S) (duE (eE S)) (nat h)), sE S (tossE (eN S) (eK S) (eE S) (nat h)))
def spRest (S : Sta) : Int32 × Sta := if eN S = 0 then (-nI 4, S) else if dueS (eN S) (duE (eE S)) < eN S then (-nI 4, S) else if (eE S).1 = 40 then (-nI 2, S) else (skyS (eN S) (latS 1 (duE (eE S))), sE S (restE (eE S)))
def okI (S : Sta) (i : Int32) : Bool := in3 i (nI 0) (nI (eN S) - nI 1)
def spExch (S : Sta) (i j : Int32) : Int32 × Sta := if okI S i = false then (-nI 1, S) else if okI S j = false then (-nI 1, S) else if i = j then (-nI 1, S) else if (eE S).1 = 40 then (-nI 2, S) else (skyS (eN S) (swpS (duE (eE S)) (nat i) (nat j)), sE S (exchE (eE S) (nat i) (nat j)))
def spUndo (S : Sta) (t : Int32) : Int32 × Sta := if in3 t (nI 0) (nI (eE S).1) = false then (-nI 1, S) else (nI ((eE S).1 - nat t), sE S (nat t, (eE S).2))
def spKeep (S : Sta) (k : Int32) : Int32 × Sta := if in3 k (nI 0) (nI 2) = false then (-nI 1, S) else if eN S = 0 then (-nI 4, S) else (nI (eE S).1, sK S (eN S, eK S, eE S, va_up (eP S) (nat k) (some (eE S))))
def spOn (S : Sta) (k : Int32) : Int32 × Sta := if in3 k (nI 0) (nI 2) = false then (-nI 1, S) else match eP S (nat k) with
  | none => (-nI 3, fndS S 1)
  | some E => (nI E.1, sE S E)
def spLands (S : Sta) (i h : Int32) : Int32 × Sta := if okI S i = false then (-nI 1, S) else if okH h = false then (-nI 1, S) else (landI (nI (eK S (nat i))) h, S)
def spMay (S : Sta) : Int32 × Sta := if eN S = 0 then (-nI 4, S) else if dueS (eN S) (duE (eE S)) < eN S then (hgtS (eN S) (eK S) (duE (eE S)), tellS S (nI (dueS (eN S) (duE (eE S))))) else (-nI 9, S)
end
section
/-! ===== the reference's deeds ===== -/
theorem skyM_push {I : Nat → Int32} {F : Nat → Nat → Int32} {S : Sta} {w2 : Nat → Int32} {d t : Nat → Nat} {b : Nat} (hx : RMx I F S) (hm : (eE S).1 < 40) (e : ∀ j, 13 ≤ j → w2 j = remW (F 1) (eE S).1 j) (h1 : ∀ k, k < eN S → w2 k = nI (d k) ∧ w2 (6 + k) = nI (t k)) (h2 : w2 12 = nI b) (ha : apart (eN S) d) : RMx I (va_up F 1 w2) (sE S (pushE (eE S) d t b)) := by
  obtain ⟨⟨g1, g2, g3, g4, g5, g6⟩, hr, ht, hl⟩ := hx
  refine ⟨⟨g1, g2, g3, evM_push g4 g2 hm e h1 h2, gdE_push g5 ha, fun q hq => ?_⟩, hr, ht, hl⟩
  have g7 := g6 q hq
  show match eP S q with
    | none => F 3 q = -nI 1
    | some E => F 3 q = nI E.1 ∧ evM w2 (534 * (q + 1)) (eN S) E ∧ gdE (eN S) E
  have g8 : match eP S q with
    | none => F 3 q = -nI 1
    | some E => F 3 q = nI E.1 ∧ evM (F 1) (534 * (q + 1)) (eN S) E ∧ gdE (eN S) E := g7
  cases he : eP S q with
  | none => rw [he] at g8; exact g8
  | some E2 =>
    rw [he] at g8
    obtain ⟨a1, a2, a3⟩ := g8
    exact ⟨a1, evM_congr a2 g2 (fun j h3 h4 => by rw [e j (by omega), remW_hi hm (by omega)]), a3⟩

theorem pm_M_toss (S : Sta) (hp : List Am_C) (hRM : RM S hp) (h : Int32) : ∃ hp', Am_Ev false 4 0 0 161 [.ref 0, .int h] hp (some (.int (spToss S h).1)) hp' ∧ RM (spToss S h).2 hp' := by
  obtain ⟨I, F, rfl, hx⟩ := hRM
  obtain ⟨hs, hr, ht, hl⟩ := id hx
  obtain ⟨g1, g2, g3, g4, g5, g6⟩ := hs
  have hI : I 2 = nI (eN S) := g1
  have hn : eN S ≤ 6 := g2
  have hk : ∀ i, i < eN S → F 2 i = nI (eK S i) ∧ eK S i < 6 := g3
  have hE : evM (F 1) 0 (eN S) (eE S) := g4
  have hG5 : gdE (eN S) (eE S) := g5
  have hap : apart (eN S) (duE (eE S)) := hG5 _ (Nat.le_refl _)
  obtain ⟨v1, v2, v3, v4, v5⟩ := id hE
  have hw : ∀ k, k < eN S → F 1 (0 + k) = nI (duE (eE S) k) := fun k q => (v3 k q).1
  have hw2 : ∀ k, k < eN S → F 1 k = nI (duE (eE S) k) := fun k q => by have := hw k q; rw [Nat.zero_add] at this; exact this
  have hm33 : F 1 533 = nI (eE S).1 := by have := v2; rw [Nat.zero_add] at this; exact this
  have eSky : skyG (fun i => F 1 (0 + i)) (eN S) = skyS (eN S) (duE (eE S)) := skyG_congr hw
  have eDue : dueG (fun i => F 1 (0 + i)) (eN S) 0 = dueS (eN S) (duE (eE S)) := dueG_congr hw _ 0 (by omega)
  have eMay : ∀ z, mayG (fun i => F 1 (0 + i)) (F 2) (eN S) z = mayS (eN S) (eK S) (duE (eE S)) z := fun z => mayG_congr hw (fun k q => (hk k q).1) z
  unfold spToss
  cases ho : okH h with
  | false =>
    rw [if_pos rfl]
    have hc := c_M_isHeight (mH I F S.2.2.2.2.2.2.1 S.2.2.2.2.2.2.2) h
    rw [show in3 h (nI 1) (nI 7) = false from ho] at hc
    refine ⟨_, am_ev 2 (some .int) false [] ok_M_toss am_mP_161 (by rw [am_m_161]) (by rw [am_m_161]) (fun h => by cases h) (Nat.le_of_ble_eq_true rfl) (fun Go hG => ?_), RM_of hx⟩
    refine hG 200 _ _ _ _ _ _ ?_
    refine Exists.intro 1 (Exists.intro _ (Exists.intro _ ⟨by decide, hc, ?_⟩))
    refine bn_f rfl ?_
    exact ⟨rfl, rfl, rfl, rfl⟩
  | true =>
    rw [if_neg (by decide)]
    have hc := c_M_isHeight (mH I F S.2.2.2.2.2.2.1 S.2.2.2.2.2.2.2) h
    rw [show in3 h (nI 1) (nI 7) = true from ho] at hc
    obtain ⟨q, hq1, hq2, rfl⟩ := in3_nat (by decide) (by decide) ho
    rw [nat_nI (by omega)]
    have hmc := c_M_mayAt I F S.2.2.2.2.2.2.1 S.2.2.2.2.2.2.2 (eN S) 0 (nI q) hI hn (by omega)
    rw [eMay] at hmc
    cases hm : mayS (eN S) (eK S) (duE (eE S)) (nI q) with
    | false =>
      rw [if_pos rfl]
      rw [hm] at hmc
      refine ⟨_, am_ev 2 (some .int) false [] ok_M_toss am_mP_161 (by rw [am_m_161]) (by rw [am_m_161]) (fun h => by cases h) (Nat.le_of_ble_eq_true rfl) (fun Go hG => ?_), RM_of hx⟩
      refine hG 200 _ _ _ _ _ _ ?_
      refine Exists.intro 1 (Exists.intro _ (Exists.intro _ ⟨by decide, hc, ?_⟩))
      refine bn_t (by decide) ?_
      refine Exists.intro 1 (Exists.intro _ (Exists.intro _ ⟨by decide, hmc, ?_⟩))
      refine bn_f rfl ?_
      exact ⟨rfl, rfl, rfl, rfl⟩
    | true =>
      rw [if_neg (by decide)]
      rw [hm] at hmc
      by_cases h40 : (eE S).1 = 40
      · rw [if_pos h40]
        refine ⟨_, am_ev 2 (some .int) false [] ok_M_toss am_mP_161 (by rw [am_m_161]) (by rw [am_m_161]) (fun h => by cases h) (Nat.le_of_ble_eq_true rfl) (fun Go hG => ?_), RM_of hx⟩
        refine hG 200 _ _ _ _ _ _ ?_
        refine Exists.intro 1 (Exists.intro _ (Exists.intro _ ⟨by decide, hc, ?_⟩))
        refine bn_t (by decide) ?_
        refine Exists.intro 1 (Exists.intro _ (Exists.intro _ ⟨by decide, hmc, ?_⟩))
        refine bn_t (by decide) ?_
        refine Exists.intro 533 ⟨by omega, rfl, ?_⟩
        refine bn_f (by rw [hm33, h40]) ?_
        exact ⟨rfl, rfl, rfl, rfl⟩
      · rw [if_neg h40]
        have hlt : (eE S).1 < 40 := by omega
        obtain ⟨hi, hv, hf⟩ := (mayS_iff hap.1 (fun i q => (hk i q).2) ⟨hq1, hq2⟩).mp hm
        obtain ⟨ap1, ap2⟩ := tos_pos hap (fun i q => (hk i q).2) ⟨hq1, hq2⟩ hm
        have hr1 := c_M_remember I F S.2.2.2.2.2.2.1 S.2.2.2.2.2.2.2 (eE S).1 hm33 hlt
        have hwr : ∀ k, k < eN S → va_up F 1 (remW (F 1) (eE S).1) 1 (0 + k) = nI (duE (eE S) k) := by
          intro k q
          rw [va_up_self, Nat.zero_add, remW_lo (by omega)]
          exact hw2 k q
        have hr2 := c_M_tossAt I (va_up F 1 (remW (F 1) (eE S).1)) S.2.2.2.2.2.2.1 S.2.2.2.2.2.2.2 (eN S) 0 (dueS (eN S) (duE (eE S))) (nI q) hI hn (by omega) (dueG_congr hwr _ 0 (by omega)) hi
        rw [va_up_up] at hr2
        have hx2 := skyM_push (w2 := tosW (remW (F 1) (eE S).1) (F 2) 0 (eN S) (dueS (eN S) (duE (eE S))) (nI q)) (d := tosS (eN S) (eK S) (duE (eE S)) q) (t := incS (thE (eE S)) (dueS (eN S) (duE (eE S)))) (b := btE (eE S) + 1) hx hlt (fun j hj => tosW_out hn hi (by omega)) (fun k hk2 => ?_) ?_ (apart_tos hap (fun i q => (hk i q).2) ⟨hq1, hq2⟩ hm)
        · have hr3 := c_M_skyAt I (va_up F 1 (tosW (remW (F 1) (eE S).1) (F 2) 0 (eN S) (dueS (eN S) (duE (eE S))) (nI q))) S.2.2.2.2.2.2.1 S.2.2.2.2.2.2.2 (eN S) 0 hI hn (by omega)
          have eS2 : skyG (fun i => va_up F 1 (tosW (remW (F 1) (eE S).1) (F 2) 0 (eN S) (dueS (eN S) (duE (eE S))) (nI q)) 1 (0 + i)) (eN S) = skyS (eN S) (tosS (eN S) (eK S) (duE (eE S)) q) := skyG_congr (fun k hk2 => tosW_S (x := 0) (fun k q => by have := hwr k q; rw [va_up_self] at this; exact this) (hk _ hi).1 hn hi (hk _ hi).2 ⟨hq1, hq2⟩ hv ap2 k hk2)
          rw [eS2] at hr3
          refine ⟨_, am_ev 2 (some .int) false [] ok_M_toss am_mP_161 (by rw [am_m_161]) (by rw [am_m_161]) (fun h => by cases h) (Nat.le_of_ble_eq_true rfl) (fun Go hG => ?_), RM_of hx2⟩
          refine hG 200 _ _ _ _ _ _ ?_
          refine Exists.intro 1 (Exists.intro _ (Exists.intro _ ⟨by decide, hc, ?_⟩))
          refine bn_t (by decide) ?_
          refine Exists.intro 1 (Exists.intro _ (Exists.intro _ ⟨by decide, hmc, ?_⟩))
          refine bn_t (by decide) ?_
          refine Exists.intro 533 ⟨by omega, rfl, ?_⟩
          refine bn_t (by rw [hm33]; intro q0; exact h40 ((nI_eq (by omega) (by decide)).mp q0)) ?_
          refine Exists.intro 1 (Exists.intro _ (Exists.intro _ ⟨by decide, hr1, ?_⟩))
          refine Exists.intro 1 (Exists.intro _ (Exists.intro _ ⟨by decide, hr2, ?_⟩))
          refine Exists.intro 0 (Exists.intro _ (Exists.intro _ ⟨by decide, hr3, ?_⟩))
          exact ⟨rfl, rfl, rfl, rfl⟩
        · constructor
          · have := tosW_S (x := 0) (fun k q => by have := hwr k q; rw [va_up_self] at this; exact this) (hk _ hi).1 hn hi (hk _ hi).2 ⟨hq1, hq2⟩ hv ap2 k hk2
            rw [Nat.zero_add] at this
            exact this
          · have h6 := tosW_th (w := remW (F 1) (eE S).1) (kf := F 2) (x := 0) (h := nI q) (k := k) (by omega) hn hi
            rw [Nat.zero_add] at h6
            rw [h6, remW_lo (by omega)]
            have h7 := (v3 k hk2).2
            rw [Nat.zero_add] at h7
            rw [h7]
            unfold incS
            by_cases hki : k = dueS (eN S) (duE (eE S))
            · rw [if_pos hki, if_pos hki, nI_s1]
              rfl
            · rw [if_neg hki, if_neg hki]
              rfl
        · have h6 := tosW_bt (w := remW (F 1) (eE S).1) (kf := F 2) (x := 0) (h := nI q) hn hi
          rw [Nat.zero_add] at h6
          rw [h6, remW_lo (by omega)]
          have h7 := v4
          rw [Nat.zero_add] at h7
          rw [h7, nI_s1]
          rfl

theorem pm_M_rest (S : Sta) (hp : List Am_C) (hRM : RM S hp)  : ∃ hp', Am_Ev false 4 0 0 171 [.ref 0] hp (some (.int (spRest S).1)) hp' ∧ RM (spRest S).2 hp' := by
  obtain ⟨I, F, rfl, hx⟩ := hRM
  obtain ⟨hs, hr, ht, hl⟩ := id hx
  obtain ⟨g1, g2, g3, g4, g5, g6⟩ := hs
  have hI : I 2 = nI (eN S) := g1
  have hn : eN S ≤ 6 := g2
  have hk : ∀ i, i < eN S → F 2 i = nI (eK S i) ∧ eK S i < 6 := g3
  have hE : evM (F 1) 0 (eN S) (eE S) := g4
  have hG5 : gdE (eN S) (eE S) := g5
  have hap : apart (eN S) (duE (eE S)) := hG5 _ (Nat.le_refl _)
  obtain ⟨v1, v2, v3, v4, v5⟩ := id hE
  have hw : ∀ k, k < eN S → F 1 (0 + k) = nI (duE (eE S) k) := fun k q => (v3 k q).1
  have hw2 : ∀ k, k < eN S → F 1 k = nI (duE (eE S) k) := fun k q => by have := hw k q; rw [Nat.zero_add] at this; exact this
  have hm33 : F 1 533 = nI (eE S).1 := by have := v2; rw [Nat.zero_add] at this; exact this
  have eSky : skyG (fun i => F 1 (0 + i)) (eN S) = skyS (eN S) (duE (eE S)) := skyG_congr hw
  have eDue : dueG (fun i => F 1 (0 + i)) (eN S) 0 = dueS (eN S) (duE (eE S)) := dueG_congr hw _ 0 (by omega)
  have eMay : ∀ z, mayG (fun i => F 1 (0 + i)) (F 2) (eN S) z = mayS (eN S) (eK S) (duE (eE S)) z := fun z => mayG_congr hw (fun k q => (hk k q).1) z
  unfold spRest
  by_cases h0 : eN S = 0
  · rw [if_pos h0]
    refine ⟨_, am_ev 1 (some .int) false [] ok_M_rest am_mP_171 (by rw [am_m_171]) (by rw [am_m_171]) (fun h => by cases h) (Nat.le_of_ble_eq_true rfl) (fun Go hG => ?_), RM_of hx⟩
    refine hG 200 _ _ _ _ _ _ ?_
    refine br_t (by rw [hI, h0]; rfl) ?_
    exact ⟨rfl, rfl, rfl, rfl⟩
  · rw [if_neg h0]
    have hz : ¬ I 2 = 0 := by rw [hI]; exact nI_ne0 (by omega) (by omega)
    have hdc := c_M_dueAt I F S.2.2.2.2.2.2.1 S.2.2.2.2.2.2.2 (eN S) 0 hI hn (by omega)
    rw [eDue] at hdc
    by_cases hd : dueS (eN S) (duE (eE S)) < eN S
    · rw [if_pos hd]
      rw [dueR_yes hd] at hdc
      refine ⟨_, am_ev 1 (some .int) false [] ok_M_rest am_mP_171 (by rw [am_m_171]) (by rw [am_m_171]) (fun h => by cases h) (Nat.le_of_ble_eq_true rfl) (fun Go hG => ?_), RM_of hx⟩
      refine hG 200 _ _ _ _ _ _ ?_
      refine br_f hz ?_
      refine Exists.intro 0 (Exists.intro _ (Exists.intro _ ⟨by decide, hdc, ?_⟩))
      refine br_f (nI_m9 (by omega)) ?_
      exact ⟨rfl, rfl, rfl, rfl⟩
    · rw [if_neg hd]
      rw [dueR_no hd] at hdc
      by_cases h40 : (eE S).1 = 40
      · rw [if_pos h40]
        refine ⟨_, am_ev 1 (some .int) false [] ok_M_rest am_mP_171 (by rw [am_m_171]) (by rw [am_m_171]) (fun h => by cases h) (Nat.le_of_ble_eq_true rfl) (fun Go hG => ?_), RM_of hx⟩
        refine hG 200 _ _ _ _ _ _ ?_
        refine br_f hz ?_
        refine Exists.intro 0 (Exists.intro _ (Exists.intro _ ⟨by decide, hdc, ?_⟩))
        refine br_t rfl ?_
        refine Exists.intro 533 ⟨by omega, rfl, ?_⟩
        refine bn_f (by rw [hm33, h40]) ?_
        exact ⟨rfl, rfl, rfl, rfl⟩
      · rw [if_neg h40]
        have hlt : (eE S).1 < 40 := by omega
        have hpos := dueS_pos hd
        have hr1 := c_M_remember I F S.2.2.2.2.2.2.1 S.2.2.2.2.2.2.2 (eE S).1 hm33 hlt
        have hr2 := c_M_later I (va_up F 1 (remW (F 1) (eE S).1)) S.2.2.2.2.2.2.1 S.2.2.2.2.2.2.2 (eN S) 0 hI hn (by omega)
        rw [va_up_up] at hr2
        have hlat : ∀ k, k < eN S → latF (va_up F 1 (remW (F 1) (eE S).1) 1) 0 (eN S) (0 + k) = nI (latS 1 (duE (eE S)) k) := by
          intro k hk2
          rw [latF_at hk2 hn, va_up_self, Nat.zero_add, remW_lo (by omega), hw2 k hk2, pk_sub (hpos k hk2)]
          rfl
        have hx2 := skyM_push (w2 := latF (va_up F 1 (remW (F 1) (eE S).1) 1) 0 (eN S)) (d := latS 1 (duE (eE S))) (t := thE (eE S)) (b := btE (eE S) + 1) hx hlt (fun j hj => by rw [latF_out hn (by omega), va_up_self]) (fun k hk2 => ?_) ?_ (apart_lat hap hpos)
        · have hr3 := c_M_skyAt I (va_up F 1 (latF (va_up F 1 (remW (F 1) (eE S).1) 1) 0 (eN S))) S.2.2.2.2.2.2.1 S.2.2.2.2.2.2.2 (eN S) 0 hI hn (by omega)
          have eS2 : skyG (fun i => va_up F 1 (latF (va_up F 1 (remW (F 1) (eE S).1) 1) 0 (eN S)) 1 (0 + i)) (eN S) = skyS (eN S) (latS 1 (duE (eE S))) := skyG_congr hlat
          rw [eS2] at hr3
          refine ⟨_, am_ev 1 (some .int) false [] ok_M_rest am_mP_171 (by rw [am_m_171]) (by rw [am_m_171]) (fun h => by cases h) (Nat.le_of_ble_eq_true rfl) (fun Go hG => ?_), RM_of hx2⟩
          refine hG 200 _ _ _ _ _ _ ?_
          refine br_f hz ?_
          refine Exists.intro 0 (Exists.intro _ (Exists.intro _ ⟨by decide, hdc, ?_⟩))
          refine br_t rfl ?_
          refine Exists.intro 533 ⟨by omega, rfl, ?_⟩
          refine bn_t (by rw [hm33]; intro q0; exact h40 ((nI_eq (by omega) (by decide)).mp q0)) ?_
          refine Exists.intro 1 (Exists.intro _ (Exists.intro _ ⟨by decide, hr1, ?_⟩))
          refine Exists.intro 0 (Exists.intro _ (Exists.intro _ ⟨by decide, hr2, ?_⟩))
          refine Exists.intro 0 (Exists.intro _ (Exists.intro _ ⟨by decide, hr3, ?_⟩))
          exact ⟨rfl, rfl, rfl, rfl⟩
        · constructor
          · have := hlat k hk2
            rw [Nat.zero_add] at this
            exact this
          · have h6 := latF_th (w := va_up F 1 (remW (F 1) (eE S).1) 1) (x := 0) (n := eN S) (k := k) (by omega) hn
            rw [Nat.zero_add] at h6
            rw [h6, va_up_self, remW_lo (by omega)]
            have h7 := (v3 k hk2).2
            rw [Nat.zero_add] at h7
            exact h7
        · have h6 := latF_bt (w := va_up F 1 (remW (F 1) (eE S).1) 1) (x := 0) (n := eN S) hn
          rw [Nat.zero_add] at h6
          rw [h6, va_up_self, remW_lo (by omega)]
          have h7 := v4
          rw [Nat.zero_add] at h7
          rw [h7, nI_s1]
          rfl

theorem pm_M_lands (S : Sta) (hp : List Am_C) (hRM : RM S hp) (i h : Int32) : ∃ hp', Am_Ev false 4 0 0 177 [.ref 0, .int i, .int h] hp (some (.int (spLands S i h).1)) hp' ∧ RM (spLands S i h).2 hp' := by
  obtain ⟨I, F, rfl, hx⟩ := hRM
  obtain ⟨hs, hr, ht, hl⟩ := id hx
  obtain ⟨g1, g2, g3, g4, g5, g6⟩ := hs
  have hI : I 2 = nI (eN S) := g1
  have hn : eN S ≤ 6 := g2
  have hk : ∀ i, i < eN S → F 2 i = nI (eK S i) ∧ eK S i < 6 := g3
  have hE : evM (F 1) 0 (eN S) (eE S) := g4
  have hG5 : gdE (eN S) (eE S) := g5
  have hap : apart (eN S) (duE (eE S)) := hG5 _ (Nat.le_refl _)
  obtain ⟨v1, v2, v3, v4, v5⟩ := id hE
  have hw : ∀ k, k < eN S → F 1 (0 + k) = nI (duE (eE S) k) := fun k q => (v3 k q).1
  have hw2 : ∀ k, k < eN S → F 1 k = nI (duE (eE S) k) := fun k q => by have := hw k q; rw [Nat.zero_add] at this; exact this
  have hm33 : F 1 533 = nI (eE S).1 := by have := v2; rw [Nat.zero_add] at this; exact this
  have eSky : skyG (fun i => F 1 (0 + i)) (eN S) = skyS (eN S) (duE (eE S)) := skyG_congr hw
  have eDue : dueG (fun i => F 1 (0 + i)) (eN S) 0 = dueS (eN S) (duE (eE S)) := dueG_congr hw _ 0 (by omega)
  have eMay : ∀ z, mayG (fun i => F 1 (0 + i)) (F 2) (eN S) z = mayS (eN S) (eK S) (duE (eE S)) z := fun z => mayG_congr hw (fun k q => (hk k q).1) z
  unfold spLands
  have hc1 := c_M_isThing I F S.2.2.2.2.2.2.1 S.2.2.2.2.2.2.2 i
  rw [hI] at hc1
  cases ho : okI S i with
  | false =>
    rw [if_pos rfl]
    rw [show in3 i (nI 0) (nI (eN S) - nI 1) = false from ho] at hc1
    refine ⟨_, am_ev 3 (some .int) false [] ok_M_lands am_mP_177 (by rw [am_m_177]) (by rw [am_m_177]) (fun h => by cases h) (Nat.le_of_ble_eq_true rfl) (fun Go hG => ?_), RM_of hx⟩
    refine hG 200 _ _ _ _ _ _ ?_
    refine Exists.intro 1 (Exists.intro _ (Exists.intro _ ⟨by decide, hc1, ?_⟩))
    refine br_t rfl ?_
    exact ⟨rfl, rfl, rfl, rfl⟩
  | true =>
    rw [if_neg (by decide)]
    rw [show in3 i (nI 0) (nI (eN S) - nI 1) = true from ho] at hc1
    obtain ⟨q, hq, rfl⟩ := in3_nat2 (k := eN S) (by omega) rfl ho
    rw [nat_nI (by omega)]
    have hc2 := c_M_isHeight (mH I F S.2.2.2.2.2.2.1 S.2.2.2.2.2.2.2) h
    cases ho2 : okH h with
    | false =>
      rw [if_pos rfl]
      rw [show in3 h (nI 1) (nI 7) = false from ho2] at hc2
      refine ⟨_, am_ev 3 (some .int) false [] ok_M_lands am_mP_177 (by rw [am_m_177]) (by rw [am_m_177]) (fun h => by cases h) (Nat.le_of_ble_eq_true rfl) (fun Go hG => ?_), RM_of hx⟩
      refine hG 200 _ _ _ _ _ _ ?_
      refine Exists.intro 1 (Exists.intro _ (Exists.intro _ ⟨by decide, hc1, ?_⟩))
      refine br_f (by decide) ?_
      refine Exists.intro 1 (Exists.intro _ (Exists.intro _ ⟨by decide, hc2, ?_⟩))
      refine br_t rfl ?_
      exact ⟨rfl, rfl, rfl, rfl⟩
    | true =>
      rw [if_neg (by decide)]
      rw [show in3 h (nI 1) (nI 7) = true from ho2] at hc2
      refine ⟨_, am_ev 3 (some .int) false [] ok_M_lands am_mP_177 (by rw [am_m_177]) (by rw [am_m_177]) (fun h => by cases h) (Nat.le_of_ble_eq_true rfl) (fun Go hG => ?_), RM_of hx⟩
      refine hG 200 _ _ _ _ _ _ ?_
      refine Exists.intro 1 (Exists.intro _ (Exists.intro _ ⟨by decide, hc1, ?_⟩))
      refine br_f (by decide) ?_
      refine Exists.intro 1 (Exists.intro _ (Exists.intro _ ⟨by decide, hc2, ?_⟩))
      refine br_f (by decide) ?_
      refine Exists.intro q ⟨by omega, rfl, ?_⟩
      refine Exists.intro 0 (Exists.intro _ (Exists.intro _ ⟨by decide, c_M_landing _ _ _, ?_⟩))
      exact ⟨by rw [(hk q hq).1], rfl, rfl, rfl⟩

theorem pm_M_may (S : Sta) (hp : List Am_C) (hRM : RM S hp)  : ∃ hp', Am_Ev false 4 0 0 178 [.ref 0] hp (some (.int (spMay S).1)) hp' ∧ RM (spMay S).2 hp' := by
  obtain ⟨I, F, rfl, hx⟩ := hRM
  obtain ⟨hs, hr, ht, hl⟩ := id hx
  obtain ⟨g1, g2, g3, g4, g5, g6⟩ := hs
  have hI : I 2 = nI (eN S) := g1
  have hn : eN S ≤ 6 := g2
  have hk : ∀ i, i < eN S → F 2 i = nI (eK S i) ∧ eK S i < 6 := g3
  have hE : evM (F 1) 0 (eN S) (eE S) := g4
  have hG5 : gdE (eN S) (eE S) := g5
  have hap : apart (eN S) (duE (eE S)) := hG5 _ (Nat.le_refl _)
  obtain ⟨v1, v2, v3, v4, v5⟩ := id hE
  have hw : ∀ k, k < eN S → F 1 (0 + k) = nI (duE (eE S) k) := fun k q => (v3 k q).1
  have hw2 : ∀ k, k < eN S → F 1 k = nI (duE (eE S) k) := fun k q => by have := hw k q; rw [Nat.zero_add] at this; exact this
  have hm33 : F 1 533 = nI (eE S).1 := by have := v2; rw [Nat.zero_add] at this; exact this
  have eSky : skyG (fun i => F 1 (0 + i)) (eN S) = skyS (eN S) (duE (eE S)) := skyG_congr hw
  have eDue : dueG (fun i => F 1 (0 + i)) (eN S) 0 = dueS (eN S) (duE (eE S)) := dueG_congr hw _ 0 (by omega)
  have eMay : ∀ z, mayG (fun i => F 1 (0 + i)) (F 2) (eN S) z = mayS (eN S) (eK S) (duE (eE S)) z := fun z => mayG_congr hw (fun k q => (hk k q).1) z
  unfold spMay
  by_cases h0 : eN S = 0
  · rw [if_pos h0]
    refine ⟨_, am_ev 1 (some .int) false [] ok_M_may am_mP_178 (by rw [am_m_178]) (by rw [am_m_178]) (fun h => by cases h) (Nat.le_of_ble_eq_true rfl) (fun Go hG => ?_), RM_of hx⟩
    refine hG 200 _ _ _ _ _ _ ?_
    refine bn_f (by rw [hI, h0]; rfl) ?_
    exact ⟨rfl, rfl, rfl, rfl⟩
  · rw [if_neg h0]
    have hz : ¬ I 2 = 0 := by rw [hI]; exact nI_ne0 (by omega) (by omega)
    have hdc := c_M_dueAt I F S.2.2.2.2.2.2.1 S.2.2.2.2.2.2.2 (eN S) 0 hI hn (by omega)
    rw [eDue] at hdc
    by_cases hd : dueS (eN S) (duE (eE S)) < eN S
    · rw [if_pos hd]
      rw [dueR_yes hd] at hdc
      have hh := c_M_heightsAt (upd I 8 (nI (dueS (eN S) (duE (eE S))))) F S.2.2.2.2.2.2.1 S.2.2.2.2.2.2.2 (eN S) 0 hI hn (by omega)
      rw [hgtG_congr eMay 7] at hh
      refine ⟨_, am_ev 1 (some .int) false [] ok_M_may am_mP_178 (by rw [am_m_178]) (by rw [am_m_178]) (fun h => by cases h) (Nat.le_of_ble_eq_true rfl) (fun Go hG => ?_), RM_tell hx _⟩
      refine hG 200 _ _ _ _ _ _ ?_
      refine bn_t hz ?_
      refine Exists.intro 0 (Exists.intro _ (Exists.intro _ ⟨by decide, hdc, ?_⟩))
      refine bn_t (nI_m9 (by omega)) ?_
      refine Exists.intro 0 (Exists.intro _ (Exists.intro _ ⟨by decide, hdc, ?_⟩))
      refine Exists.intro 2 (Exists.intro _ (Exists.intro _ ⟨by decide, hh, ?_⟩))
      exact ⟨rfl, rfl, rfl, rfl⟩
    · rw [if_neg hd]
      rw [dueR_no hd] at hdc
      refine ⟨_, am_ev 1 (some .int) false [] ok_M_may am_mP_178 (by rw [am_m_178]) (by rw [am_m_178]) (fun h => by cases h) (Nat.le_of_ble_eq_true rfl) (fun Go hG => ?_), RM_of hx⟩
      refine hG 200 _ _ _ _ _ _ ?_
      refine bn_t hz ?_
      refine Exists.intro 0 (Exists.intro _ (Exists.intro _ ⟨by decide, hdc, ?_⟩))
      refine bn_f rfl ?_
      exact ⟨rfl, rfl, rfl, rfl⟩
end
section
/-! ===== the reference: exchange, undo, keep, on ===== -/
theorem pm_M_exchange (S : Sta) (hp : List Am_C) (hRM : RM S hp) (i j : Int32) : ∃ hp', Am_Ev false 4 0 0 172 [.ref 0, .int i, .int j] hp (some (.int (spExch S i j).1)) hp' ∧ RM (spExch S i j).2 hp' := by
  obtain ⟨I, F, rfl, hx⟩ := hRM
  obtain ⟨hs, hr, ht, hl⟩ := id hx
  obtain ⟨g1, g2, g3, g4, g5, g6⟩ := hs
  have hI : I 2 = nI (eN S) := g1
  have hn : eN S ≤ 6 := g2
  have hk : ∀ i, i < eN S → F 2 i = nI (eK S i) ∧ eK S i < 6 := g3
  have hE : evM (F 1) 0 (eN S) (eE S) := g4
  have hG5 : gdE (eN S) (eE S) := g5
  have hap : apart (eN S) (duE (eE S)) := hG5 _ (Nat.le_refl _)
  obtain ⟨v1, v2, v3, v4, v5⟩ := id hE
  have hw : ∀ k, k < eN S → F 1 (0 + k) = nI (duE (eE S) k) := fun k q => (v3 k q).1
  have hw2 : ∀ k, k < eN S → F 1 k = nI (duE (eE S) k) := fun k q => by have := hw k q; rw [Nat.zero_add] at this; exact this
  have hm33 : F 1 533 = nI (eE S).1 := by have := v2; rw [Nat.zero_add] at this; exact this
  have eSky : skyG (fun i => F 1 (0 + i)) (eN S) = skyS (eN S) (duE (eE S)) := skyG_congr hw
  have eDue : dueG (fun i => F 1 (0 + i)) (eN S) 0 = dueS (eN S) (duE (eE S)) := dueG_congr hw _ 0 (by omega)
  have eMay : ∀ z, mayG (fun i => F 1 (0 + i)) (F 2) (eN S) z = mayS (eN S) (eK S) (duE (eE S)) z := fun z => mayG_congr hw (fun k q => (hk k q).1) z
  unfold spExch
  have hc1 := c_M_isThing I F S.2.2.2.2.2.2.1 S.2.2.2.2.2.2.2 i
  rw [hI] at hc1
  cases ho : okI S i with
  | false =>
    rw [if_pos rfl]
    rw [show in3 i (nI 0) (nI (eN S) - nI 1) = false from ho] at hc1
    refine ⟨_, am_ev 3 (some .int) false [] ok_M_exchange am_mP_172 (by rw [am_m_172]) (by rw [am_m_172]) (fun h => by cases h) (Nat.le_of_ble_eq_true rfl) (fun Go hG => ?_), RM_of hx⟩
    refine hG 200 _ _ _ _ _ _ ?_
    refine Exists.intro 1 (Exists.intro _ (Exists.intro _ ⟨by decide, hc1, ?_⟩))
    refine br_t rfl ?_
    exact ⟨rfl, rfl, rfl, rfl⟩
  | true =>
    rw [if_neg (by decide)]
    rw [show in3 i (nI 0) (nI (eN S) - nI 1) = true from ho] at hc1
    obtain ⟨a, ha, rfl⟩ := in3_nat2 (k := eN S) (by omega) rfl ho
    rw [nat_nI (by omega)]
    have hc2 := c_M_isThing I F S.2.2.2.2.2.2.1 S.2.2.2.2.2.2.2 j
    rw [hI] at hc2
    cases ho2 : okI S j with
    | false =>
      rw [if_pos rfl]
      rw [show in3 j (nI 0) (nI (eN S) - nI 1) = false from ho2] at hc2
      refine ⟨_, am_ev 3 (some .int) false [] ok_M_exchange am_mP_172 (by rw [am_m_172]) (by rw [am_m_172]) (fun h => by cases h) (Nat.le_of_ble_eq_true rfl) (fun Go hG => ?_), RM_of hx⟩
      refine hG 200 _ _ _ _ _ _ ?_
      refine Exists.intro 1 (Exists.intro _ (Exists.intro _ ⟨by decide, hc1, ?_⟩))
      refine br_f (by decide) ?_
      refine Exists.intro 1 (Exists.intro _ (Exists.intro _ ⟨by decide, hc2, ?_⟩))
      refine br_t rfl ?_
      exact ⟨rfl, rfl, rfl, rfl⟩
    | true =>
      rw [if_neg (by decide)]
      rw [show in3 j (nI 0) (nI (eN S) - nI 1) = true from ho2] at hc2
      obtain ⟨b, hb, rfl⟩ := in3_nat2 (k := eN S) (by omega) rfl ho2
      rw [nat_nI (by omega)]
      by_cases hab : nI a = nI b
      · rw [if_pos hab]
        refine ⟨_, am_ev 3 (some .int) false [] ok_M_exchange am_mP_172 (by rw [am_m_172]) (by rw [am_m_172]) (fun h => by cases h) (Nat.le_of_ble_eq_true rfl) (fun Go hG => ?_), RM_of hx⟩
        refine hG 200 _ _ _ _ _ _ ?_
        refine Exists.intro 1 (Exists.intro _ (Exists.intro _ ⟨by decide, hc1, ?_⟩))
        refine br_f (by decide) ?_
        refine Exists.intro 1 (Exists.intro _ (Exists.intro _ ⟨by decide, hc2, ?_⟩))
        refine br_f (by decide) ?_
        refine bn_f hab ?_
        exact ⟨rfl, rfl, rfl, rfl⟩
      · rw [if_neg hab]
        have hne : a ≠ b := fun q => hab (by rw [q])
        by_cases h40 : (eE S).1 = 40
        · rw [if_pos h40]
          refine ⟨_, am_ev 3 (some .int) false [] ok_M_exchange am_mP_172 (by rw [am_m_172]) (by rw [am_m_172]) (fun h => by cases h) (Nat.le_of_ble_eq_true rfl) (fun Go hG => ?_), RM_of hx⟩
          refine hG 200 _ _ _ _ _ _ ?_
          refine Exists.intro 1 (Exists.intro _ (Exists.intro _ ⟨by decide, hc1, ?_⟩))
          refine br_f (by decide) ?_
          refine Exists.intro 1 (Exists.intro _ (Exists.intro _ ⟨by decide, hc2, ?_⟩))
          refine br_f (by decide) ?_
          refine bn_t hab ?_
          refine Exists.intro 533 ⟨by omega, rfl, ?_⟩
          refine bn_f (by rw [hm33, h40]) ?_
          exact ⟨rfl, rfl, rfl, rfl⟩
        · rw [if_neg h40]
          have hlt : (eE S).1 < 40 := by omega
          have hr1 := c_M_remember I F S.2.2.2.2.2.2.1 S.2.2.2.2.2.2.2 (eE S).1 hm33 hlt
          have hr2 := c_M_swap I (va_up F 1 (remW (F 1) (eE S).1)) S.2.2.2.2.2.2.1 S.2.2.2.2.2.2.2 a b (by omega) (by omega)
          rw [va_up_up, va_up_self] at hr2
          have hsw : ∀ k, k < 6 → upd (upd (remW (F 1) (eE S).1) a (remW (F 1) (eE S).1 b)) b (remW (F 1) (eE S).1 a) (0 + k) = (if k = b then F 1 a else if k = a then F 1 b else F 1 k) := by
            intro k hk2
            rw [Nat.zero_add, remW_lo (show a < 13 by omega), remW_lo (show b < 13 by omega)]
            unfold upd
            by_cases h1 : k = b
            · rw [if_pos h1, if_pos h1]
            · rw [if_neg h1, if_neg h1]
              by_cases h2 : k = a
              · rw [if_pos h2, if_pos h2]
              · rw [if_neg h2, if_neg h2, remW_lo (by omega)]
          have hsd : ∀ k, k < eN S → upd (upd (remW (F 1) (eE S).1) a (remW (F 1) (eE S).1 b)) b (remW (F 1) (eE S).1 a) (0 + k) = nI (swpS (duE (eE S)) a b k) := by
            intro k hk2
            rw [hsw k (by omega), hw2 a ha, hw2 b hb, hw2 k hk2]
            unfold swpS setS
            by_cases h1 : k = b
            · rw [if_pos h1, if_pos h1]
            · rw [if_neg h1, if_neg h1]
              by_cases h2 : k = a
              · rw [if_pos h2, if_pos h2]
              · rw [if_neg h2, if_neg h2]
          have hx2 := skyM_push (w2 := upd (upd (remW (F 1) (eE S).1) a (remW (F 1) (eE S).1 b)) b (remW (F 1) (eE S).1 a)) (d := swpS (duE (eE S)) a b) (t := thE (eE S)) (b := btE (eE S)) hx hlt (fun q hq => by rw [pk_un (by omega), pk_un (by omega)]) (fun k hk2 => ?_) ?_ (apart_swp hap ha hb)
          · have hr3 := c_M_skyAt I (va_up F 1 (upd (upd (remW (F 1) (eE S).1) a (remW (F 1) (eE S).1 b)) b (remW (F 1) (eE S).1 a))) S.2.2.2.2.2.2.1 S.2.2.2.2.2.2.2 (eN S) 0 hI hn (by omega)
            have eS2 : skyG (fun i => va_up F 1 (upd (upd (remW (F 1) (eE S).1) a (remW (F 1) (eE S).1 b)) b (remW (F 1) (eE S).1 a)) 1 (0 + i)) (eN S) = skyS (eN S) (swpS (duE (eE S)) a b) := skyG_congr hsd
            rw [eS2] at hr3
            refine ⟨_, am_ev 3 (some .int) false [] ok_M_exchange am_mP_172 (by rw [am_m_172]) (by rw [am_m_172]) (fun h => by cases h) (Nat.le_of_ble_eq_true rfl) (fun Go hG => ?_), RM_of hx2⟩
            refine hG 200 _ _ _ _ _ _ ?_
            refine Exists.intro 1 (Exists.intro _ (Exists.intro _ ⟨by decide, hc1, ?_⟩))
            refine br_f (by decide) ?_
            refine Exists.intro 1 (Exists.intro _ (Exists.intro _ ⟨by decide, hc2, ?_⟩))
            refine br_f (by decide) ?_
            refine bn_t hab ?_
            refine Exists.intro 533 ⟨by omega, rfl, ?_⟩
            refine bn_t (by rw [hm33]; intro q0; exact h40 ((nI_eq (by omega) (by decide)).mp q0)) ?_
            refine Exists.intro 1 (Exists.intro _ (Exists.intro _ ⟨by decide, hr1, ?_⟩))
            refine Exists.intro 0 (Exists.intro _ (Exists.intro _ ⟨by decide, hr2, ?_⟩))
            refine Exists.intro 0 (Exists.intro _ (Exists.intro _ ⟨by decide, hr3, ?_⟩))
            exact ⟨rfl, rfl, rfl, rfl⟩
          · constructor
            · have := hsd k hk2
              rw [Nat.zero_add] at this
              exact this
            · rw [pk_un (by omega), pk_un (by omega), remW_lo (by omega)]
              have h7 := (v3 k hk2).2
              rw [Nat.zero_add] at h7
              exact h7
          · rw [pk_un (by omega), pk_un (by omega), remW_lo (by omega)]
            have h7 := v4
            rw [Nat.zero_add] at h7
            exact h7

theorem kept_M {I : Nat → Int32} {F : Nat → Nat → Int32} {S : Sta} {w2 : Nat → Int32} (hs : skyM I F S.1) (e : ∀ j, 534 ≤ j → j < 2136 → w2 j = F 1 j) : ∀ q, q < 3 → match eP S q with
    | none => F 3 q = -nI 1
    | some E => F 3 q = nI E.1 ∧ evM w2 (534 * (q + 1)) (eN S) E ∧ gdE (eN S) E := by
  intro q hq
  obtain ⟨g1, g2, g3, g4, g5, g6⟩ := hs
  have g8 : match eP S q with
    | none => F 3 q = -nI 1
    | some E => F 3 q = nI E.1 ∧ evM (F 1) (534 * (q + 1)) (eN S) E ∧ gdE (eN S) E := g6 q hq
  cases he : eP S q with
  | none => rw [he] at g8; exact g8
  | some E2 =>
    rw [he] at g8
    obtain ⟨a1, a2, a3⟩ := g8
    exact ⟨a1, evM_congr a2 g2 (fun j h3 h4 => e j (by omega) (by omega)), a3⟩

theorem pm_M_undo (S : Sta) (hp : List Am_C) (hRM : RM S hp) (t : Int32) : ∃ hp', Am_Ev false 4 0 0 174 [.ref 0, .int t] hp (some (.int (spUndo S t).1)) hp' ∧ RM (spUndo S t).2 hp' := by
  obtain ⟨I, F, rfl, hx⟩ := hRM
  obtain ⟨hs, hr, ht, hl⟩ := id hx
  obtain ⟨g1, g2, g3, g4, g5, g6⟩ := hs
  have hI : I 2 = nI (eN S) := g1
  have hn : eN S ≤ 6 := g2
  have hk : ∀ i, i < eN S → F 2 i = nI (eK S i) ∧ eK S i < 6 := g3
  have hE : evM (F 1) 0 (eN S) (eE S) := g4
  have hG5 : gdE (eN S) (eE S) := g5
  have hap : apart (eN S) (duE (eE S)) := hG5 _ (Nat.le_refl _)
  obtain ⟨v1, v2, v3, v4, v5⟩ := id hE
  have hw : ∀ k, k < eN S → F 1 (0 + k) = nI (duE (eE S) k) := fun k q => (v3 k q).1
  have hw2 : ∀ k, k < eN S → F 1 k = nI (duE (eE S) k) := fun k q => by have := hw k q; rw [Nat.zero_add] at this; exact this
  have hm33 : F 1 533 = nI (eE S).1 := by have := v2; rw [Nat.zero_add] at this; exact this
  have eSky : skyG (fun i => F 1 (0 + i)) (eN S) = skyS (eN S) (duE (eE S)) := skyG_congr hw
  have eDue : dueG (fun i => F 1 (0 + i)) (eN S) 0 = dueS (eN S) (duE (eE S)) := dueG_congr hw _ 0 (by omega)
  have eMay : ∀ z, mayG (fun i => F 1 (0 + i)) (F 2) (eN S) z = mayS (eN S) (eK S) (duE (eE S)) z := fun z => mayG_congr hw (fun k q => (hk k q).1) z
  unfold spUndo
  have hc := c_M_in (mH I F S.2.2.2.2.2.2.1 S.2.2.2.2.2.2.2) t (nI 0) (F 1 533)
  rw [hm33] at hc
  cases ho : in3 t (nI 0) (nI (eE S).1) with
  | false =>
    rw [if_pos rfl]
    rw [ho, ← hm33] at hc
    refine ⟨_, am_ev 3 (some .int) false [29] ok_M_undo am_mP_174 (by rw [am_m_174]) (by rw [am_m_174]) (fun h => by cases h) (Nat.le_of_ble_eq_true rfl) (fun Go hG => ?_), RM_of hx⟩
    refine hG 200 _ _ _ _ _ _ ?_
    refine Exists.intro 533 ⟨by omega, rfl, ?_⟩
    refine Exists.intro 0 (Exists.intro _ (Exists.intro _ ⟨by decide, hc, ?_⟩))
    refine bn_f rfl ?_
    exact ⟨rfl, rfl, rfl, rfl⟩
  | true =>
    rw [if_neg (by decide)]
    rw [ho, ← hm33] at hc
    obtain ⟨a, -, ha, rfl⟩ := in3_nat (by omega) (by decide) ho
    rw [nat_nI (by omega)]
    have hsub : F 1 533 - nI a = nI ((eE S).1 - a) := by rw [hm33, pk_sub ha]
    by_cases h0 : (eE S).1 - a = 0
    · have ha2 : a = (eE S).1 := by omega
      have hx3 : RMx I F (sE S (a, (eE S).2)) := by
        rw [ha2]
        exact hx
      refine ⟨_, am_ev 3 (some .int) false [29] ok_M_undo am_mP_174 (by rw [am_m_174]) (by rw [am_m_174]) (fun h => by cases h) (Nat.le_of_ble_eq_true rfl) (fun Go hG => ?_), RM_of hx3⟩
      refine hG 200 _ _ _ _ _ _ ?_
      refine Exists.intro 533 ⟨by omega, rfl, ?_⟩
      refine Exists.intro 0 (Exists.intro _ (Exists.intro _ ⟨by decide, hc, ?_⟩))
      refine bn_t (by decide) ?_
      refine Exists.intro 533 ⟨by omega, rfl, ?_⟩
      show Go 29 [some (.ref 0), some (.int (nI a)), some (.int (F 1 533 - nI a))] [] (mH I F S.2.2.2.2.2.2.1 S.2.2.2.2.2.2.2) 0 0
      rw [hsub]
      refine hG 200 _ _ _ _ _ _ ?_
      refine br_t (by rw [h0]; decide) ?_
      exact ⟨rfl, rfl, rfl, rfl⟩
    · have hx3 : RMx I (va_up F 1 (upd (va_cpy (F 1) (F 1) (13 + 13 * a) 0 13) 533 (nI a))) (sE S (a, (eE S).2)) := by
        refine ⟨⟨g1, g2, g3, ?_, fun d hd => hG5 d (by have : d ≤ a := hd; omega), ?_⟩, hr, ht, hl⟩
        · have hv5 := v5 a (by omega)
          have hcp : ∀ k, k < 13 → upd (va_cpy (F 1) (F 1) (13 + 13 * a) 0 13) 533 (nI a) k = F 1 (13 + 13 * a + k) := by
            intro k hk2
            rw [pk_un (by omega), pk_cpy_in (by omega) (by omega)]
            rfl
          show evM (upd (va_cpy (F 1) (F 1) (13 + 13 * a) 0 13) 533 (nI a)) 0 (eN S) (a, (eE S).2)
          refine ⟨by show a ≤ 40; omega, by rw [Nat.zero_add]; exact pk_us, fun k hk2 => ⟨?_, ?_⟩, ?_, fun d hd => ?_⟩
          · show upd (va_cpy (F 1) (F 1) (13 + 13 * a) 0 13) 533 (nI a) (0 + k) = _
            rw [Nat.zero_add, hcp k (by omega)]
            have := (hv5.1 k hk2).1
            rw [Nat.zero_add] at this
            exact this
          · show upd (va_cpy (F 1) (F 1) (13 + 13 * a) 0 13) 533 (nI a) (0 + 6 + k) = _
            rw [show 0 + 6 + k = 6 + k by omega, hcp (6 + k) (by omega)]
            have := (hv5.1 k hk2).2
            rw [show 0 + 13 + 13 * a + 6 + k = 13 + 13 * a + (6 + k) by omega] at this
            exact this
          · show upd (va_cpy (F 1) (F 1) (13 + 13 * a) 0 13) 533 (nI a) (0 + 12) = _
            rw [show 0 + 12 = 12 by omega, hcp 12 (by omega)]
            have := hv5.2
            rw [Nat.zero_add] at this
            exact this
          · have hd2 : d < a := hd
            have hv6 := v5 d (by omega)
            have hout : ∀ j, 13 ≤ j → j < 533 → upd (va_cpy (F 1) (F 1) (13 + 13 * a) 0 13) 533 (nI a) j = F 1 j := by
              intro j h1 h2
              rw [pk_un (by omega), pk_cpy_out (by omega)]
            refine ⟨fun k hk2 => ?_, ?_⟩
            · rw [hout _ (by omega) (by omega), hout _ (by omega) (by omega)]
              exact hv6.1 k hk2
            · rw [hout _ (by omega) (by omega)]
              exact hv6.2
        · exact kept_M (I := I) (F := F) (S := S) ⟨g1, g2, g3, g4, g5, g6⟩ (fun j h1 h2 => by rw [va_up_self, pk_un (by omega), pk_cpy_out (by omega)])
      have hcr := c_M_copyRow I F S.2.2.2.2.2.2.1 S.2.2.2.2.2.2.2 (13 + 13 * a) 0 13 (by omega) (by omega) (by omega)
      have ei : nI 13 + nI 13 * nI a = nI (13 + 13 * a) := by rw [pk_mul, nI_add]
      rw [← ei] at hcr
      refine ⟨_, am_ev 3 (some .int) false [29] ok_M_undo am_mP_174 (by rw [am_m_174]) (by rw [am_m_174]) (fun h => by cases h) (Nat.le_of_ble_eq_true rfl) (fun Go hG => ?_), RM_of hx3⟩
      refine hG 200 _ _ _ _ _ _ ?_
      refine Exists.intro 533 ⟨by omega, rfl, ?_⟩
      refine Exists.intro 0 (Exists.intro _ (Exists.intro _ ⟨by decide, hc, ?_⟩))
      refine bn_t (by decide) ?_
      refine Exists.intro 533 ⟨by omega, rfl, ?_⟩
      show Go 29 [some (.ref 0), some (.int (nI a)), some (.int (F 1 533 - nI a))] [] (mH I F S.2.2.2.2.2.2.1 S.2.2.2.2.2.2.2) 0 0
      rw [hsub]
      refine hG 200 _ _ _ _ _ _ ?_
      refine br_f (nI_nle (by omega) (by omega)) ?_
      refine Exists.intro 0 (Exists.intro _ (Exists.intro _ ⟨by decide, hcr, ?_⟩))
      refine Exists.intro 533 ⟨by omega, rfl, ?_⟩
      exact ⟨rfl, rfl, rfl, rfl⟩

set_option maxRecDepth 100000 in
theorem pm_M_keep (S : Sta) (hp : List Am_C) (hRM : RM S hp) (k : Int32) : ∃ hp', Am_Ev false 4 0 0 175 [.ref 0, .int k] hp (some (.int (spKeep S k).1)) hp' ∧ RM (spKeep S k).2 hp' := by
  obtain ⟨I, F, rfl, hx⟩ := hRM
  obtain ⟨hs, hr, ht, hl⟩ := id hx
  obtain ⟨g1, g2, g3, g4, g5, g6⟩ := hs
  have hI : I 2 = nI (eN S) := g1
  have hn : eN S ≤ 6 := g2
  have hk : ∀ i, i < eN S → F 2 i = nI (eK S i) ∧ eK S i < 6 := g3
  have hE : evM (F 1) 0 (eN S) (eE S) := g4
  have hG5 : gdE (eN S) (eE S) := g5
  have hap : apart (eN S) (duE (eE S)) := hG5 _ (Nat.le_refl _)
  obtain ⟨v1, v2, v3, v4, v5⟩ := id hE
  have hw : ∀ k, k < eN S → F 1 (0 + k) = nI (duE (eE S) k) := fun k q => (v3 k q).1
  have hw2 : ∀ k, k < eN S → F 1 k = nI (duE (eE S) k) := fun k q => by have := hw k q; rw [Nat.zero_add] at this; exact this
  have hm33 : F 1 533 = nI (eE S).1 := by have := v2; rw [Nat.zero_add] at this; exact this
  have eSky : skyG (fun i => F 1 (0 + i)) (eN S) = skyS (eN S) (duE (eE S)) := skyG_congr hw
  have eDue : dueG (fun i => F 1 (0 + i)) (eN S) 0 = dueS (eN S) (duE (eE S)) := dueG_congr hw _ 0 (by omega)
  have eMay : ∀ z, mayG (fun i => F 1 (0 + i)) (F 2) (eN S) z = mayS (eN S) (eK S) (duE (eE S)) z := fun z => mayG_congr hw (fun k q => (hk k q).1) z
  unfold spKeep
  have hc := c_M_in (mH I F S.2.2.2.2.2.2.1 S.2.2.2.2.2.2.2) k (nI 0) (nI 2)
  cases ho : in3 k (nI 0) (nI 2) with
  | false =>
    rw [if_pos rfl]
    rw [ho] at hc
    refine ⟨_, am_ev 2 (some .int) false [] ok_M_keep am_mP_175 (by rw [am_m_175]) (by rw [am_m_175]) (fun h => by cases h) (Nat.le_of_ble_eq_true rfl) (fun Go hG => ?_), RM_of hx⟩
    refine hG 200 _ _ _ _ _ _ ?_
    refine Exists.intro 0 (Exists.intro _ (Exists.intro _ ⟨by decide, hc, ?_⟩))
    refine bn_f rfl ?_
    exact ⟨rfl, rfl, rfl, rfl⟩
  | true =>
    rw [if_neg (by decide)]
    rw [ho] at hc
    obtain ⟨a, -, ha, rfl⟩ := in3_nat (by decide) (by decide) ho
    rw [nat_nI (by omega)]
    by_cases h0 : eN S = 0
    · rw [if_pos h0]
      refine ⟨_, am_ev 2 (some .int) false [] ok_M_keep am_mP_175 (by rw [am_m_175]) (by rw [am_m_175]) (fun h => by cases h) (Nat.le_of_ble_eq_true rfl) (fun Go hG => ?_), RM_of hx⟩
      refine hG 200 _ _ _ _ _ _ ?_
      refine Exists.intro 0 (Exists.intro _ (Exists.intro _ ⟨by decide, hc, ?_⟩))
      refine bn_t (by decide) ?_
      refine bn_f (by rw [hI, h0]; rfl) ?_
      exact ⟨rfl, rfl, rfl, rfl⟩
    · rw [if_neg h0]
      have hz : ¬ I 2 = 0 := by rw [hI]; exact nI_ne0 (by omega) (by omega)
      have hcr := c_M_copyRow I F S.2.2.2.2.2.2.1 S.2.2.2.2.2.2.2 0 (534 * (a + 1)) 534 (by omega) (by omega) (by omega)
      have ei : nI 534 * (nI a + nI 1) = nI (534 * (a + 1)) := by rw [nI_s1, pk_mul]
      rw [← ei] at hcr
      have hlow : ∀ j, j < 534 → va_cpy (F 1) (F 1) 0 (534 * (a + 1)) 534 j = F 1 j := fun j hj => pk_cpy_out (by omega)
      have hx3 : RMx I (va_up (va_up F 1 (va_cpy (F 1) (F 1) 0 (534 * (a + 1)) 534)) 3 (upd (F 3) a (F 1 533))) (sK S (eN S, eK S, eE S, va_up (eP S) a (some (eE S)))) := by
        refine ⟨⟨g1, g2, g3, evM_congr hE hn (fun j h1 h2 => hlow j (by omega)), g5, fun q hq => ?_⟩, hr, ht, hl⟩
        show match va_up (eP S) a (some (eE S)) q with
          | none => upd (F 3) a (F 1 533) q = -nI 1
          | some E => upd (F 3) a (F 1 533) q = nI E.1 ∧ evM (va_cpy (F 1) (F 1) 0 (534 * (a + 1)) 534) (534 * (q + 1)) (eN S) E ∧ gdE (eN S) E
        by_cases hqa : q = a
        · subst hqa
          rw [va_up_self, pk_us]
          refine ⟨hm33, ?_, hG5⟩
          have hin : ∀ j, j < 534 → va_cpy (F 1) (F 1) 0 (534 * (q + 1)) 534 (534 * (q + 1) + j) = F 1 (0 + j) := by
            intro j hj
            rw [pk_cpy_in (by omega) (by omega), show 534 * (q + 1) + j - 534 * (q + 1) = j by omega]
          refine ⟨v1, by rw [hin _ (by omega)]; exact v2, fun k hk2 => ⟨by rw [hin _ (by omega)]; exact (v3 k hk2).1, by rw [show 534 * (q + 1) + 6 + k = 534 * (q + 1) + (6 + k) by omega, hin _ (by omega), show 0 + (6 + k) = 0 + 6 + k by omega]; exact (v3 k hk2).2⟩, by rw [hin _ (by omega)]; exact v4, fun d hd => ⟨fun k hk2 => ⟨?_, ?_⟩, ?_⟩⟩
          · rw [show 534 * (q + 1) + 13 + 13 * d + k = 534 * (q + 1) + (13 + 13 * d + k) by omega, hin _ (by omega), show 0 + (13 + 13 * d + k) = 0 + 13 + 13 * d + k by omega]
            exact ((v5 d hd).1 k hk2).1
          · rw [show 534 * (q + 1) + 13 + 13 * d + 6 + k = 534 * (q + 1) + (13 + 13 * d + 6 + k) by omega, hin _ (by omega), show 0 + (13 + 13 * d + 6 + k) = 0 + 13 + 13 * d + 6 + k by omega]
            exact ((v5 d hd).1 k hk2).2
          · rw [show 534 * (q + 1) + 13 + 13 * d + 12 = 534 * (q + 1) + (13 + 13 * d + 12) by omega, hin _ (by omega), show 0 + (13 + 13 * d + 12) = 0 + 13 + 13 * d + 12 by omega]
            exact (v5 d hd).2
        · rw [va_up_ne _ _ hqa, pk_un hqa]
          have g8 : match eP S q with
            | none => F 3 q = -nI 1
            | some E => F 3 q = nI E.1 ∧ evM (F 1) (534 * (q + 1)) (eN S) E ∧ gdE (eN S) E := g6 q hq
          cases he : eP S q with
          | none => rw [he] at g8; exact g8
          | some E2 =>
            rw [he] at g8
            obtain ⟨a1, a2, a3⟩ := g8
            exact ⟨a1, evM_congr a2 g2 (fun j h3 h4 => pk_cpy_out (by omega)), a3⟩
      refine ⟨_, am_ev 2 (some .int) false [] ok_M_keep am_mP_175 (by rw [am_m_175]) (by rw [am_m_175]) (fun h => by cases h) (Nat.le_of_ble_eq_true rfl) (fun Go hG => ?_), RM_of hx3⟩
      refine hG 200 _ _ _ _ _ _ ?_
      refine Exists.intro 0 (Exists.intro _ (Exists.intro _ ⟨by decide, hc, ?_⟩))
      refine bn_t (by decide) ?_
      refine bn_t hz ?_
      refine Exists.intro 0 (Exists.intro _ (Exists.intro _ ⟨by decide, hcr, ?_⟩))
      refine Exists.intro 533 ⟨by omega, rfl, ?_⟩
      refine Exists.intro a ⟨by omega, rfl, ?_⟩
      refine Exists.intro 533 ⟨by omega, rfl, ?_⟩
      refine ⟨?_, ?_, rfl, rfl⟩
      · show some (Value.int (va_cpy (F 1) (F 1) 0 (534 * (a + 1)) 534 533)) = _
        rw [hlow 533 (by omega), hm33]
      · show mH I (va_up (va_up F 1 (va_cpy (F 1) (F 1) 0 (534 * (a + 1)) 534)) 3 (upd (F 3) a (va_cpy (F 1) (F 1) 0 (534 * (a + 1)) 534 533))) S.2.2.2.2.2.2.1 S.2.2.2.2.2.2.2 = _
        rw [hlow 533 (by omega)]
        rfl

set_option maxRecDepth 100000 in
theorem pm_M_on (S : Sta) (hp : List Am_C) (hRM : RM S hp) (k : Int32) : ∃ hp', Am_Ev false 4 0 0 176 [.ref 0, .int k] hp (some (.int (spOn S k).1)) hp' ∧ RM (spOn S k).2 hp' := by
  obtain ⟨I, F, rfl, hx⟩ := hRM
  obtain ⟨hs, hr, ht, hl⟩ := id hx
  obtain ⟨g1, g2, g3, g4, g5, g6⟩ := hs
  have hI : I 2 = nI (eN S) := g1
  have hn : eN S ≤ 6 := g2
  have hk : ∀ i, i < eN S → F 2 i = nI (eK S i) ∧ eK S i < 6 := g3
  have hE : evM (F 1) 0 (eN S) (eE S) := g4
  have hG5 : gdE (eN S) (eE S) := g5
  have hap : apart (eN S) (duE (eE S)) := hG5 _ (Nat.le_refl _)
  obtain ⟨v1, v2, v3, v4, v5⟩ := id hE
  have hw : ∀ k, k < eN S → F 1 (0 + k) = nI (duE (eE S) k) := fun k q => (v3 k q).1
  have hw2 : ∀ k, k < eN S → F 1 k = nI (duE (eE S) k) := fun k q => by have := hw k q; rw [Nat.zero_add] at this; exact this
  have hm33 : F 1 533 = nI (eE S).1 := by have := v2; rw [Nat.zero_add] at this; exact this
  have eSky : skyG (fun i => F 1 (0 + i)) (eN S) = skyS (eN S) (duE (eE S)) := skyG_congr hw
  have eDue : dueG (fun i => F 1 (0 + i)) (eN S) 0 = dueS (eN S) (duE (eE S)) := dueG_congr hw _ 0 (by omega)
  have eMay : ∀ z, mayG (fun i => F 1 (0 + i)) (F 2) (eN S) z = mayS (eN S) (eK S) (duE (eE S)) z := fun z => mayG_congr hw (fun k q => (hk k q).1) z
  unfold spOn
  have hc := c_M_in (mH I F S.2.2.2.2.2.2.1 S.2.2.2.2.2.2.2) k (nI 0) (nI 2)
  cases ho : in3 k (nI 0) (nI 2) with
  | false =>
    rw [if_pos rfl]
    rw [ho] at hc
    refine ⟨_, am_ev 2 (some .int) false [] ok_M_on am_mP_176 (by rw [am_m_176]) (by rw [am_m_176]) (fun h => by cases h) (Nat.le_of_ble_eq_true rfl) (fun Go hG => ?_), RM_of hx⟩
    refine hG 200 _ _ _ _ _ _ ?_
    refine Exists.intro 0 (Exists.intro _ (Exists.intro _ ⟨by decide, hc, ?_⟩))
    refine bn_f rfl ?_
    exact ⟨rfl, rfl, rfl, rfl⟩
  | true =>
    rw [if_neg (by decide)]
    rw [ho] at hc
    obtain ⟨a, -, ha, rfl⟩ := in3_nat (by decide) (by decide) ho
    rw [nat_nI (by omega)]
    have g8 : match eP S a with
      | none => F 3 a = -nI 1
      | some E => F 3 a = nI E.1 ∧ evM (F 1) (534 * (a + 1)) (eN S) E ∧ gdE (eN S) E := g6 a (by omega)
    cases he : eP S a with
    | none =>
      rw [he] at g8
      refine ⟨_, am_ev 2 (some .int) false [] ok_M_on am_mP_176 (by rw [am_m_176]) (by rw [am_m_176]) (fun h => by cases h) (Nat.le_of_ble_eq_true rfl) (fun Go hG => ?_), RM_fnd hx (by decide)⟩
      refine hG 200 _ _ _ _ _ _ ?_
      refine Exists.intro 0 (Exists.intro _ (Exists.intro _ ⟨by decide, hc, ?_⟩))
      refine bn_t (by decide) ?_
      refine Exists.intro a ⟨by omega, rfl, ?_⟩
      refine br_f (by rw [g8]; decide) ?_
      refine Exists.intro 0 (Exists.intro _ (Exists.intro _ ⟨by decide, c_M_found I F S.2.2.2.2.2.2.1 S.2.2.2.2.2.2.2 1 (by decide), ?_⟩))
      exact ⟨rfl, rfl, rfl, rfl⟩
    | some E2 =>
      rw [he] at g8
      obtain ⟨a1, a2, a3⟩ := g8
      have a4 := a2.1
      have hcr := c_M_copyRow I F S.2.2.2.2.2.2.1 S.2.2.2.2.2.2.2 (534 * (a + 1)) 0 534 (by omega) (by omega) (by omega)
      have ei : nI 534 * (nI a + nI 1) = nI (534 * (a + 1)) := by rw [nI_s1, pk_mul]
      rw [← ei] at hcr
      have hin : ∀ j, j < 534 → va_cpy (F 1) (F 1) (534 * (a + 1)) 0 534 (0 + j) = F 1 (534 * (a + 1) + j) := by
        intro j hj
        rw [pk_cpy_in (by omega) (by omega), show 0 + j - 0 = j by omega]
      obtain ⟨w1, w2, w3, w4, w5⟩ := id a2
      have hx3 : RMx I (va_up F 1 (va_cpy (F 1) (F 1) (534 * (a + 1)) 0 534)) (sE S E2) := by
        refine ⟨⟨g1, g2, g3, ?_, a3, kept_M (I := I) (F := F) (S := S) ⟨g1, g2, g3, g4, g5, g6⟩ (fun j h1 h2 => pk_cpy_out (by omega))⟩, hr, ht, hl⟩
        show evM (va_cpy (F 1) (F 1) (534 * (a + 1)) 0 534) 0 (eN S) E2
        refine ⟨w1, by rw [hin _ (by omega)]; exact w2, fun k hk2 => ⟨by rw [hin _ (by omega)]; exact (w3 k hk2).1, by rw [show 0 + 6 + k = 0 + (6 + k) by omega, hin _ (by omega), show 534 * (a + 1) + (6 + k) = 534 * (a + 1) + 6 + k by omega]; exact (w3 k hk2).2⟩, by rw [hin _ (by omega)]; exact w4, fun d hd => ⟨fun k hk2 => ⟨?_, ?_⟩, ?_⟩⟩
        · rw [show 0 + 13 + 13 * d + k = 0 + (13 + 13 * d + k) by omega, hin _ (by omega), show 534 * (a + 1) + (13 + 13 * d + k) = 534 * (a + 1) + 13 + 13 * d + k by omega]
          exact ((w5 d hd).1 k hk2).1
        · rw [show 0 + 13 + 13 * d + 6 + k = 0 + (13 + 13 * d + 6 + k) by omega, hin _ (by omega), show 534 * (a + 1) + (13 + 13 * d + 6 + k) = 534 * (a + 1) + 13 + 13 * d + 6 + k by omega]
          exact ((w5 d hd).1 k hk2).2
        · rw [show 0 + 13 + 13 * d + 12 = 0 + (13 + 13 * d + 12) by omega, hin _ (by omega), show 534 * (a + 1) + (13 + 13 * d + 12) = 534 * (a + 1) + 13 + 13 * d + 12 by omega]
          exact (w5 d hd).2
      refine ⟨_, am_ev 2 (some .int) false [] ok_M_on am_mP_176 (by rw [am_m_176]) (by rw [am_m_176]) (fun h => by cases h) (Nat.le_of_ble_eq_true rfl) (fun Go hG => ?_), RM_of hx3⟩
      refine hG 200 _ _ _ _ _ _ ?_
      refine Exists.intro 0 (Exists.intro _ (Exists.intro _ ⟨by decide, hc, ?_⟩))
      refine bn_t (by decide) ?_
      refine Exists.intro a ⟨by omega, rfl, ?_⟩
      refine br_t (by rw [a1]; exact nI_pos' (by omega)) ?_
      refine Exists.intro 0 (Exists.intro _ (Exists.intro _ ⟨by decide, hcr, ?_⟩))
      refine Exists.intro 533 ⟨by omega, rfl, ?_⟩
      refine ⟨?_, rfl, rfl, rfl⟩
      have h5 := hin 533 (by omega)
      rw [Nat.zero_add] at h5
      show some (Value.int (va_cpy (F 1) (F 1) (534 * (a + 1)) 0 534 533)) = _
      rw [h5, w2]
end
section
/-! ===== the class: evenings ===== -/
/-- an evening's five cells at a place of the heap -/
def evH (hp : List Am_C) (h : Nat) (d b m : Int32) (tt da th bk : Nat → Int32) : Prop := hp[h]? = some (.inr (2, [.int d, .int b, .int m, .ref (h + 1), .ref (h + 2), .ref (h + 3), .ref (h + 4)])) ∧ hp[h + 1]? = some (.inl (0, 6, .inl tt)) ∧ hp[h + 2]? = some (.inl (0, 40, .inl da)) ∧ hp[h + 3]? = some (.inl (0, 40, .inl th)) ∧ hp[h + 4]? = some (.inl (0, 40, .inl bk))
def evW (hp : List Am_C) (h : Nat) (d b m : Int32) (tt da th bk : Nat → Int32) : List Am_C := ((((hp.set h (.inr (2, [.int d, .int b, .int m, .ref (h + 1), .ref (h + 2), .ref (h + 3), .ref (h + 4)]))).set (h + 1) (.inl (0, 6, .inl tt))).set (h + 2) (.inl (0, 40, .inl da))).set (h + 3) (.inl (0, 40, .inl th))).set (h + 4) (.inl (0, 40, .inl bk))
theorem am_sets {hp : List Am_C} {h k : Nat} {a c : Am_C} (e : hp[k]? = some a) : (hp.set h c)[k]? = if h = k then some c else some a := by
  by_cases hk : h = k
  · subst hk
    rw [if_pos rfl]
    exact am_set_at e
  · rw [if_neg hk]
    exact am_set_ne hk e
theorem evW_H {hp : List Am_C} {h : Nat} {d b m d' b' m' : Int32} {tt da th bk tt' da' th' bk' : Nat → Int32} (e : evH hp h d b m tt da th bk) : evH (evW hp h d' b' m' tt' da' th' bk') h d' b' m' tt' da' th' bk' := by
  obtain ⟨e0, e1, e2, e3, e4⟩ := e
  unfold evH evW
  refine ⟨?_, ?_, ?_, ?_, ?_⟩
  · rw [am_set_ne (by omega) (am_set_ne (by omega) (am_set_ne (by omega) (am_set_ne (by omega) (am_set_at e0))))]
  · rw [am_set_ne (by omega) (am_set_ne (by omega) (am_set_ne (by omega) (am_set_at (am_set_ne (by omega) e1))))]
  · rw [am_set_ne (by omega) (am_set_ne (by omega) (am_set_at (am_set_ne (by omega) (am_set_ne (by omega) e2))))]
  · rw [am_set_ne (by omega) (am_set_at (am_set_ne (by omega) (am_set_ne (by omega) (am_set_ne (by omega) e3))))]
  · rw [am_set_at (am_set_ne (by omega) (am_set_ne (by omega) (am_set_ne (by omega) (am_set_ne (by omega) e4))))]
theorem set_comm' {hp : List Am_C} {i j : Nat} {a b : Am_C} (h : i ≠ j) : (hp.set i a).set j b = (hp.set j b).set i a := List.set_comm a b h
theorem evW_0 {hp : List Am_C} {h : Nat} {d b m d' b' m' : Int32} {tt da th bk : Nat → Int32} : (evW hp h d b m tt da th bk).set h (.inr (2, [.int d', .int b', .int m', .ref (h + 1), .ref (h + 2), .ref (h + 3), .ref (h + 4)])) = evW hp h d' b' m' tt da th bk := by
  unfold evW
  rw [set_comm' (i := h + 4) (by omega), set_comm' (i := h + 3) (by omega), set_comm' (i := h + 2) (by omega), set_comm' (i := h + 1) (by omega), List.set_set]
theorem evW_1 {hp : List Am_C} {h : Nat} {d b m : Int32} {tt da th bk tt' : Nat → Int32} : (evW hp h d b m tt da th bk).set (h + 1) (.inl (0, 6, .inl tt')) = evW hp h d b m tt' da th bk := by
  unfold evW
  rw [set_comm' (i := h + 4) (by omega), set_comm' (i := h + 3) (by omega), set_comm' (i := h + 2) (by omega), List.set_set]
theorem evW_2 {hp : List Am_C} {h : Nat} {d b m : Int32} {tt da th bk da' : Nat → Int32} : (evW hp h d b m tt da th bk).set (h + 2) (.inl (0, 40, .inl da')) = evW hp h d b m tt da' th bk := by
  unfold evW
  rw [set_comm' (i := h + 4) (by omega), set_comm' (i := h + 3) (by omega), List.set_set]
theorem evW_3 {hp : List Am_C} {h : Nat} {d b m : Int32} {tt da th bk th' : Nat → Int32} : (evW hp h d b m tt da th bk).set (h + 3) (.inl (0, 40, .inl th')) = evW hp h d b m tt da th' bk := by
  unfold evW
  rw [set_comm' (i := h + 4) (by omega), List.set_set]
theorem evW_4 {hp : List Am_C} {h : Nat} {d b m : Int32} {tt da th bk bk' : Nat → Int32} : (evW hp h d b m tt da th bk).set (h + 4) (.inl (0, 40, .inl bk')) = evW hp h d b m tt da th bk' := by
  unfold evW
  rw [List.set_set]
theorem evW_id {hp : List Am_C} {h : Nat} {d b m : Int32} {tt da th bk : Nat → Int32} (e : evH hp h d b m tt da th bk) : evW hp h d b m tt da th bk = hp := by
  obtain ⟨e0, e1, e2, e3, e4⟩ := e
  unfold evW
  rw [set_same e0, set_same e1, set_same e2, set_same e3, set_same e4]

theorem c_E_isForgotten (hp : List Am_C) (h : Nat) (d b m : Int32) (tt da th bk : Nat → Int32) (e : evH hp h d b m tt da th bk) : Am_Ev false 0 0 0 60 [.ref h] (hp) (some (.int (b2 (decide (m < 0))))) (hp) := by
  refine am_ev 1 (some .boolean) false [] ok_E_isForgotten am_mP_60 (by rw [am_m_60]) (by rw [am_m_60]) (fun h => by cases h) (Nat.le_of_ble_eq_true rfl) ?_
  intro Go hG
  refine hG 200 _ _ _ _ _ _ ?_
  refine am_ob_of e.1 ?_
  refine And.intro (fun h1 => ?_) (fun h1 => ?_)
  · exact ⟨Or.inl rfl, by rw [decide_eq_false (Int32.not_lt.mpr h1)]; rfl, rfl, rfl, rfl⟩
  · exact ⟨Or.inr rfl, by rw [decide_eq_true (Int32.not_le.mp h1)]; rfl, rfl, rfl, rfl⟩

theorem c_E_isFull (hp : List Am_C) (h : Nat) (d b m : Int32) (tt da th bk : Nat → Int32) (e : evH hp h d b m tt da th bk) : Am_Ev false 0 0 0 55 [.ref h] (hp) (some (.int (b2 (decide (nI 40 ≤ m))))) (hp) := by
  refine am_ev 1 (some .boolean) false [] ok_E_isFull am_mP_55 (by rw [am_m_55]) (by rw [am_m_55]) (fun h => by cases h) (Nat.le_of_ble_eq_true rfl) ?_
  intro Go hG
  refine hG 200 _ _ _ _ _ _ ?_
  refine am_ob_of e.1 ?_
  refine And.intro (fun h1 => ?_) (fun h1 => ?_)
  · exact ⟨Or.inl rfl, by rw [decide_eq_false (Int32.not_le.mpr h1)]; rfl, rfl, rfl, rfl⟩
  · exact ⟨Or.inr rfl, by rw [decide_eq_true (Int32.not_lt.mp h1)]; rfl, rfl, rfl, rfl⟩

theorem c_E_forget (al : Bool) (hp : List Am_C) (h : Nat) (d b m : Int32) (tt da th bk : Nat → Int32) (e : evH hp h d b m tt da th bk) : Am_Ev al 0 0 0 7 [.ref h] hp none (evW hp h d b (-nI 1) tt da th bk) := by
  refine am_ev 1 none false [] ok_E_forget am_mP_7 (by rw [am_m_7]) (by rw [am_m_7]) (fun h => by cases h) (Nat.le_of_ble_eq_true rfl) ?_
  intro Go hG
  refine hG 200 _ _ _ _ _ _ ?_
  refine am_ob_of e.1 ?_
  refine ⟨rfl, ?_, rfl, rfl⟩
  have h1 := evW_0 (hp := hp) (h := h) (d := d) (b := b) (m := m) (d' := d) (b' := b) (m' := -nI 1) (tt := tt) (da := da) (th := th) (bk := bk)
  rw [evW_id e] at h1
  exact h1

theorem c_E_throwsMade (hp : List Am_C) (h : Nat) (d b m : Int32) (tt da th bk : Nat → Int32) (e : evH hp h d b m tt da th bk) : Am_Ev false 0 0 0 123 [.ref h] (hp) (some (.int (sumG tt 6))) (hp) := by
  refine am_ev 3 (some .int) false [4] ok_E_throwsMade am_mP_123 (by rw [am_m_123]) (by rw [am_m_123]) (fun h => by cases h) (Nat.le_of_ble_eq_true rfl) ?_
  intro Go hG
  have L : ∀ (j k : Nat), k + j = 6 → Go 4 [some (.ref h), some (.int (sumG tt k)), some (.int (nI k))] [] hp 0 0 := by
    intro j
    induction j with
    | zero =>
      intro k hk
      refine hG 200 _ _ _ _ _ _ ?_
      refine br_t (nI_le (by omega) (by omega)) ?_
      exact ⟨by rw [show k = 6 by omega], rfl, rfl, rfl⟩
    | succ j ih =>
      intro k hk
      refine hG 200 _ _ _ _ _ _ ?_
      refine br_f (nI_ge (by omega) (by omega)) ?_
      refine am_ob_of e.1 ?_
      refine am_ai_of e.2.1 rfl ?_
      refine Exists.intro k ⟨by omega, rfl, ?_⟩
      have h := ih (k + 1) (by omega)
      rw [← nI_s1] at h
      exact h
  refine hG 200 _ _ _ _ _ _ ?_
  exact L 6 0 (by omega)

theorem c_E_begin (hp : List Am_C) (h : Nat) (d b m : Int32) (tt da th bk : Nat → Int32) (e : evH hp h d b m tt da th bk) (x : Int32) : Am_Ev false 0 0 0 38 [.ref h, .int x] (hp) (none) (evW hp h x (nI 0) (nI 0) (fillF tt 0 6 (nI 0)) da th bk) := by
  refine am_ev 3 none false [17] ok_E_begin am_mP_38 (by rw [am_m_38]) (by rw [am_m_38]) (fun h => by cases h) (Nat.le_of_ble_eq_true rfl) ?_
  intro Go hG
  have L : ∀ (j k : Nat), k + j = 6 → Go 17 [some (.ref h), some (.int x), some (.int (nI k))] [] (evW hp h x (nI 0) (nI 0) (fillF tt 0 k (nI 0)) da th bk) 0 0 := by
    intro j
    induction j with
    | zero =>
      intro k hk
      refine hG 200 _ _ _ _ _ _ ?_
      refine br_t (nI_le (by omega) (by omega)) ?_
      have hk : k = 6 := by omega
      subst hk
      exact ⟨rfl, rfl, rfl, rfl⟩
    | succ j ih =>
      intro k hk
      have e2 := evW_H (d' := x) (b' := nI 0) (m' := nI 0) (tt' := fillF tt 0 k (nI 0)) (da' := da) (th' := th) (bk' := bk) e
      refine hG 200 _ _ _ _ _ _ ?_
      refine br_f (nI_ge (by omega) (by omega)) ?_
      refine am_ob_of e2.1 ?_
      refine am_ai_of e2.2.1 rfl ?_
      refine Exists.intro k ⟨by omega, rfl, ?_⟩
      have h9 := ih (k + 1) (by omega)
      have e7 := fillF_s tt 0 k (nI 0)
      rw [Nat.zero_add] at e7
      rw [← nI_s1, ← e7, ← evW_1 (tt := fillF tt 0 k (nI 0))] at h9
      exact h9
  refine hG 200 _ _ _ _ _ _ ?_
  refine am_ob_of e.1 ?_
  refine am_ob_of (am_set_at e.1) ?_
  refine am_ob_of (am_set_at (am_set_at e.1)) ?_
  have h9 := L 6 0 (by omega)
  rw [fillF_0, ← evW_0 (d := d) (b := b) (m := m), evW_id e] at h9
  show Go 17 [some (.ref h), some (.int x), some (.int (nI 0))] [] (((hp.set h (.inr (2, [.int x, .int b, .int m, .ref (h + 1), .ref (h + 2), .ref (h + 3), .ref (h + 4)]))).set h (.inr (2, [.int x, .int (nI 0), .int m, .ref (h + 1), .ref (h + 2), .ref (h + 3), .ref (h + 4)]))).set h (.inr (2, [.int x, .int (nI 0), .int (nI 0), .ref (h + 1), .ref (h + 2), .ref (h + 3), .ref (h + 4)]))) 0 0
  rw [List.set_set, List.set_set]
  exact h9

theorem c_E_enter (hp : List Am_C) (h : Nat) (d b m : Int32) (tt da th bk : Nat → Int32) (e : evH hp h d b m tt da th bk) (q : Nat) (x t c : Int32) (hm : m = nI q) (hq : q < 40) (ht : t = -nI 9 ∨ ∃ z, z < 6 ∧ t = nI z) : Am_Ev false 1 0 0 59 [.ref h, .int x, .int t, .int c] (hp) (none) (evW hp h x (b + c) (m + nI 1) (if t = -nI 9 then tt else upd tt (nat t) (tt (nat t) + nI 1)) (upd da q d) (upd th q t) (upd bk q c)) := by
  refine am_ev 4 none false [28, 38, 48, 58, 63, 73] ok_E_enter am_mP_59 (by rw [am_m_59]) (by rw [am_m_59]) (fun h => by cases h) (Nat.le_of_ble_eq_true rfl) ?_
  intro Go hG
  have hf := c_E_isForgotten hp h d b m tt da th bk e
  rw [decide_eq_false (show ¬ m < 0 by rw [hm]; exact nI_pos (by omega))] at hf
  have hu := c_E_isFull hp h d b m tt da th bk e
  rw [decide_eq_false (show ¬ nI 40 ≤ m by rw [hm]; exact nI_ge hq (by omega))] at hu
  have e1 : evH (evW hp h d b m tt (upd da q d) th bk) h d b m tt (upd da q d) th bk := evW_H e
  have e2 : evH (evW hp h d b m tt (upd da q d) (upd th q t) bk) h d b m tt (upd da q d) (upd th q t) bk := evW_H e
  have e3 : evH (evW hp h d b m tt (upd da q d) (upd th q t) (upd bk q c)) h d b m tt (upd da q d) (upd th q t) (upd bk q c) := evW_H e
  have e4 : evH (evW hp h d b (m + nI 1) tt (upd da q d) (upd th q t) (upd bk q c)) h d b (m + nI 1) tt (upd da q d) (upd th q t) (upd bk q c) := evW_H e
  have e5 : evH (evW hp h x b (m + nI 1) tt (upd da q d) (upd th q t) (upd bk q c)) h x b (m + nI 1) tt (upd da q d) (upd th q t) (upd bk q c) := evW_H e
  have e6 : evH (evW hp h x (b + c) (m + nI 1) tt (upd da q d) (upd th q t) (upd bk q c)) h x (b + c) (m + nI 1) tt (upd da q d) (upd th q t) (upd bk q c) := evW_H e
  refine hG 200 _ _ _ _ _ _ ?_
  refine am_vt e.1 rfl ?_
  refine Exists.intro 0 (Exists.intro _ (Exists.intro _ ⟨by decide, hf, ?_⟩))
  refine bn_f rfl ?_
  refine am_vt e.1 rfl ?_
  refine Exists.intro 0 (Exists.intro _ (Exists.intro _ ⟨by decide, hu, ?_⟩))
  refine br_t rfl ?_
  refine am_ob_of e.1 ?_
  refine am_ob_of e.1 ?_
  refine am_ob_of e.1 ?_
  refine am_ai_of e.2.2.1 rfl ?_
  refine Exists.intro q ⟨hq, hm, ?_⟩
  show Go 28 [some (.ref h), some (.int x), some (.int t), some (.int c)] [] (hp.set (h + 2) (.inl (0, 40, .inl (upd da q d)))) 0 0
  rw [← evW_id e, evW_2]
  refine hG 200 _ _ _ _ _ _ ?_
  refine am_ob_of e1.1 ?_
  refine am_ob_of e1.1 ?_
  refine am_ai_of e1.2.2.2.1 rfl ?_
  refine Exists.intro q ⟨hq, hm, ?_⟩
  show Go 38 [some (.ref h), some (.int x), some (.int t), some (.int c)] [] ((evW hp h d b m tt (upd da q d) th bk).set (h + 3) (.inl (0, 40, .inl (upd th q t)))) 0 0
  rw [evW_3]
  refine hG 200 _ _ _ _ _ _ ?_
  refine am_ob_of e2.1 ?_
  refine am_ob_of e2.1 ?_
  refine am_ai_of e2.2.2.2.2 rfl ?_
  refine Exists.intro q ⟨hq, hm, ?_⟩
  show Go 48 [some (.ref h), some (.int x), some (.int t), some (.int c)] [] ((evW hp h d b m tt (upd da q d) (upd th q t) bk).set (h + 4) (.inl (0, 40, .inl (upd bk q c)))) 0 0
  rw [evW_4]
  refine hG 200 _ _ _ _ _ _ ?_
  refine am_ob_of e3.1 ?_
  refine am_ob_of e3.1 ?_
  show Go 58 [some (.ref h), some (.int x), some (.int t), some (.int c)] [] ((evW hp h d b m tt (upd da q d) (upd th q t) (upd bk q c)).set h (.inr (2, [.int d, .int b, .int (m + nI 1), .ref (h + 1), .ref (h + 2), .ref (h + 3), .ref (h + 4)]))) 0 0
  rw [evW_0]
  refine hG 200 _ _ _ _ _ _ ?_
  refine am_ob_of e4.1 ?_
  show Go 63 [some (.ref h), some (.int x), some (.int t), some (.int c)] [] ((evW hp h d b (m + nI 1) tt (upd da q d) (upd th q t) (upd bk q c)).set h (.inr (2, [.int x, .int b, .int (m + nI 1), .ref (h + 1), .ref (h + 2), .ref (h + 3), .ref (h + 4)]))) 0 0
  rw [evW_0]
  refine hG 200 _ _ _ _ _ _ ?_
  refine am_ob_of e5.1 ?_
  refine am_ob_of e5.1 ?_
  show Go 73 [some (.ref h), some (.int x), some (.int t), some (.int c)] [] ((evW hp h x b (m + nI 1) tt (upd da q d) (upd th q t) (upd bk q c)).set h (.inr (2, [.int x, .int (b + c), .int (m + nI 1), .ref (h + 1), .ref (h + 2), .ref (h + 3), .ref (h + 4)]))) 0 0
  rw [evW_0]
  refine hG 200 _ _ _ _ _ _ ?_
  rcases ht with ht | ⟨z, hz, ht⟩
  · refine br_t ht ?_
    refine ⟨rfl, ?_, rfl, rfl⟩
    rw [if_pos ht]
  · subst ht
    refine br_f (nI_m9 (by omega)) ?_
    refine am_ob_of e6.1 ?_
    refine am_ai_of e6.2.1 rfl ?_
    refine Exists.intro z ⟨hz, rfl, ?_⟩
    refine am_ai_of e6.2.1 rfl ?_
    refine Exists.intro z ⟨hz, rfl, ?_⟩
    refine ⟨rfl, ?_, rfl, rfl⟩
    rw [if_neg (nI_m9 (by omega)), nat_nI (by omega)]
    exact evW_1

theorem evH_other {hp : List Am_C} {h h2 : Nat} {d b m d2 b2 m2 : Int32} {tt da th bk tt2 da2 th2 bk2 : Nat → Int32} (hd : h + 5 ≤ h2 ∨ h2 + 5 ≤ h) (e : evH hp h2 d2 b2 m2 tt2 da2 th2 bk2) : evH (evW hp h d b m tt da th bk) h2 d2 b2 m2 tt2 da2 th2 bk2 := by
  obtain ⟨e0, e1, e2, e3, e4⟩ := e
  unfold evH evW
  refine ⟨?_, ?_, ?_, ?_, ?_⟩
  · exact am_set_ne (by omega) (am_set_ne (by omega) (am_set_ne (by omega) (am_set_ne (by omega) (am_set_ne (by omega) e0))))
  · exact am_set_ne (by omega) (am_set_ne (by omega) (am_set_ne (by omega) (am_set_ne (by omega) (am_set_ne (by omega) e1))))
  · exact am_set_ne (by omega) (am_set_ne (by omega) (am_set_ne (by omega) (am_set_ne (by omega) (am_set_ne (by omega) e2))))
  · exact am_set_ne (by omega) (am_set_ne (by omega) (am_set_ne (by omega) (am_set_ne (by omega) (am_set_ne (by omega) e3))))
  · exact am_set_ne (by omega) (am_set_ne (by omega) (am_set_ne (by omega) (am_set_ne (by omega) (am_set_ne (by omega) e4))))
def undT (th : Nat → Int32) : Nat → Nat → (Nat → Int32) → (Nat → Int32)
  | 0, _, tt => tt
  | j + 1, q, tt => undT th j (q - 1) (if th (q - 1) = -nI 9 then tt else upd tt (nat (th (q - 1))) (tt (nat (th (q - 1))) - nI 1))
def undB (bk : Nat → Int32) : Nat → Nat → Int32 → Int32
  | 0, _, b => b
  | j + 1, q, b => undB bk j (q - 1) (b - bk (q - 1))
theorem m1_lt (t : Nat) (h : t ≤ 40) : nI t - nI 1 < nI t := by
  rw [Int32.lt_iff_toInt_lt, pk_sub_toInt (by omega) (by omega), nI_toInt (by omega)]
  omega

theorem c_E_takeBack (hp : List Am_C) (h : Nat) (d b m : Int32) (tt da th bk : Nat → Int32) (e : evH hp h d b m tt da th bk) (M t : Nat) (hm : m = nI M) (hM : M ≤ 40) (ht : t ≤ M) (hth : ∀ z, z < M → th z = -nI 9 ∨ ∃ y, y < 6 ∧ th z = nI y) : Am_Ev false 0 0 0 68 [.ref h, .int (nI t)] hp none (evW hp h (if M - t = 0 then d else da t) (undB bk (M - t) M b) (nI t) (undT th (M - t) M tt) da th bk) := by
  refine am_ev 3 none false [7, 26, 41, 67, 72] ok_E_takeBack am_mP_68 (by rw [am_m_68]) (by rw [am_m_68]) (fun h => by cases h) (Nat.le_of_ble_eq_true rfl) ?_
  intro Go hG
  have L : ∀ (j q : Nat) (d1 b1 : Int32) (t1 : Nat → Int32), t + j = q → q ≤ M → (if j = 0 then d1 else da t) = (if M - t = 0 then d else da t) → undB bk j q b1 = undB bk (M - t) M b → undT th j q t1 = undT th (M - t) M tt → Go 7 [some (.ref h), some (.int (nI t)), some (.int (nI q - nI 1))] [] (evW hp h d1 b1 (nI q) t1 da th bk) 0 0 := by
    intro j
    induction j with
    | zero =>
      intro q d1 b1 t1 hq hqM h1 h2 h3
      refine hG 200 _ _ _ _ _ _ ?_
      have hqt : q = t := by omega
      subst hqt
      refine br_t (m1_lt q (by omega)) ?_
      rw [← h1, ← h2, ← h3, if_pos rfl]
      exact ⟨rfl, rfl, rfl, rfl⟩
    | succ j ih =>
      intro q d1 b1 t1 hq hqM h1 h2 h3
      have eq1 : nI q - nI 1 = nI (q - 1) := pk_sub (by omega)
      rw [eq1]
      have E1 : evH (evW hp h d1 b1 (nI q) t1 da th bk) h d1 b1 (nI q) t1 da th bk := evW_H e
      have E2 : evH (evW hp h (da (q - 1)) b1 (nI q) t1 da th bk) h (da (q - 1)) b1 (nI q) t1 da th bk := evW_H e
      have E3 : evH (evW hp h (da (q - 1)) (b1 - bk (q - 1)) (nI q) t1 da th bk) h (da (q - 1)) (b1 - bk (q - 1)) (nI q) t1 da th bk := evW_H e
      refine hG 200 _ _ _ _ _ _ ?_
      refine br_f (nI_nlt (by omega) (by omega)) ?_
      refine br_f (nI_pos (by omega)) ?_
      refine am_ob_of E1.1 ?_
      refine am_ai_of E1.2.2.1 rfl ?_
      refine Exists.intro (q - 1) ⟨by omega, rfl, ?_⟩
      refine am_ob_of E1.1 ?_
      show Go 26 [some (.ref h), some (.int (nI t)), some (.int (nI (q - 1)))] [] ((evW hp h d1 b1 (nI q) t1 da th bk).set h (.inr (2, [.int (da (q - 1)), .int b1, .int (nI q), .ref (h + 1), .ref (h + 2), .ref (h + 3), .ref (h + 4)]))) 0 0
      rw [evW_0]
      refine hG 200 _ _ _ _ _ _ ?_
      refine am_ob_of E2.1 ?_
      refine am_ob_of E2.1 ?_
      refine am_ai_of E2.2.2.2.2 rfl ?_
      refine Exists.intro (q - 1) ⟨by omega, rfl, ?_⟩
      refine am_ob_of E2.1 ?_
      show Go 41 [some (.ref h), some (.int (nI t)), some (.int (nI (q - 1)))] [] ((evW hp h (da (q - 1)) b1 (nI q) t1 da th bk).set h (.inr (2, [.int (da (q - 1)), .int (b1 - bk (q - 1)), .int (nI q), .ref (h + 1), .ref (h + 2), .ref (h + 3), .ref (h + 4)]))) 0 0
      rw [evW_0]
      have key : ∀ t2, t2 = (if th (q - 1) = -nI 9 then t1 else upd t1 (nat (th (q - 1))) (t1 (nat (th (q - 1))) - nI 1)) → Go 67 [some (.ref h), some (.int (nI t)), some (.int (nI (q - 1)))] [] (evW hp h (da (q - 1)) (b1 - bk (q - 1)) (nI q) t2 da th bk) 0 0 := by
        intro t2 ht2
        have E4 : evH (evW hp h (da (q - 1)) (b1 - bk (q - 1)) (nI q) t2 da th bk) h (da (q - 1)) (b1 - bk (q - 1)) (nI q) t2 da th bk := evW_H e
        refine hG 200 _ _ _ _ _ _ ?_
        refine am_ob_of E4.1 ?_
        show Go 72 [some (.ref h), some (.int (nI t)), some (.int (nI (q - 1)))] [] ((evW hp h (da (q - 1)) (b1 - bk (q - 1)) (nI q) t2 da th bk).set h (.inr (2, [.int (da (q - 1)), .int (b1 - bk (q - 1)), .int (nI (q - 1)), .ref (h + 1), .ref (h + 2), .ref (h + 3), .ref (h + 4)]))) 0 0
        rw [evW_0]
        refine hG 200 _ _ _ _ _ _ ?_
        have h9 := ih (q - 1) (da (q - 1)) (b1 - bk (q - 1)) t2 (by omega) (by omega) (by
          rw [← h1, if_neg (Nat.succ_ne_zero j)]
          by_cases hj : j = 0
          · rw [if_pos hj]
            congr 1
            omega
          · rw [if_neg hj]) h2 (by rw [ht2]; exact h3)
        rw [Int32.sub_eq_add_neg] at h9
        exact h9
      refine hG 200 _ _ _ _ _ _ ?_
      refine am_ob_of E3.1 ?_
      refine am_ai_of E3.2.2.2.1 rfl ?_
      refine Exists.intro (q - 1) ⟨by omega, rfl, ?_⟩
      rcases hth (q - 1) (by omega) with h9 | ⟨y, hy, h9⟩
      · refine br_t h9 ?_
        exact key t1 (by rw [if_pos h9])
      · refine br_f (by rw [h9]; exact nI_m9 (by omega)) ?_
        refine am_ob_of E3.1 ?_
        refine am_ob_of E3.1 ?_
        refine am_ai_of E3.2.2.2.1 rfl ?_
        refine Exists.intro (q - 1) ⟨by omega, rfl, ?_⟩
        refine am_ai_of E3.2.1 rfl ?_
        refine Exists.intro y ⟨hy, h9, ?_⟩
        refine am_ai_of E3.2.1 rfl ?_
        refine Exists.intro y ⟨hy, h9, ?_⟩
        show Go 67 [some (.ref h), some (.int (nI t)), some (.int (nI (q - 1)))] [] ((evW hp h (da (q - 1)) (b1 - bk (q - 1)) (nI q) t1 da th bk).set (h + 1) (.inl (0, 6, .inl (upd t1 y (t1 y - nI 1))))) 0 0
        rw [evW_1]
        refine key _ ?_
        rw [if_neg (by rw [h9]; exact nI_m9 (by omega)), h9, nat_nI (by omega)]
  refine hG 200 _ _ _ _ _ _ ?_
  refine am_ob_of e.1 ?_
  have h9 := L (M - t) M d b tt (by omega) (Nat.le_refl _) rfl rfl rfl
  rw [← hm, evW_id e] at h9
  exact h9

theorem c_E_takeFrom (hp : List Am_C) (h h2 : Nat) (d b m d2 b2 m2 : Int32) (tt da th bk tt2 da2 th2 bk2 : Nat → Int32) (hd : h + 5 ≤ h2 ∨ h2 + 5 ≤ h) (e : evH hp h d b m tt da th bk) (f : evH hp h2 d2 b2 m2 tt2 da2 th2 bk2) : Am_Ev false 1 0 0 71 [.ref h, .ref h2] (hp) (none) (evW hp h d2 b2 m2 (va_cpy tt2 tt 0 0 6) (va_cpy da2 da 0 0 40) (va_cpy th2 th 0 0 40) (va_cpy bk2 bk 0 0 40)) := by
  refine am_ev 2 none false [8, 16, 24, 39, 54, 69] ok_E_takeFrom am_mP_71 (by rw [am_m_71]) (by rw [am_m_71]) (fun h => by cases h) (Nat.le_of_ble_eq_true rfl) ?_
  intro Go hG
  have E0 : evH (evW hp h d b m tt da th bk) h d b m tt da th bk := evW_H e
  have F0 : evH (evW hp h d b m tt da th bk) h2 d2 b2 m2 tt2 da2 th2 bk2 := evH_other hd f
  have E1 : evH (evW hp h d2 b m tt da th bk) h d2 b m tt da th bk := evW_H e
  have F1 : evH (evW hp h d2 b m tt da th bk) h2 d2 b2 m2 tt2 da2 th2 bk2 := evH_other hd f
  have E2 : evH (evW hp h d2 b2 m tt da th bk) h d2 b2 m tt da th bk := evW_H e
  have F2 : evH (evW hp h d2 b2 m tt da th bk) h2 d2 b2 m2 tt2 da2 th2 bk2 := evH_other hd f
  have E3 : evH (evW hp h d2 b2 m2 tt da th bk) h d2 b2 m2 tt da th bk := evW_H e
  have F3 : evH (evW hp h d2 b2 m2 tt da th bk) h2 d2 b2 m2 tt2 da2 th2 bk2 := evH_other hd f
  have E4 : evH (evW hp h d2 b2 m2 (va_cpy tt2 tt 0 0 6) da th bk) h d2 b2 m2 (va_cpy tt2 tt 0 0 6) da th bk := evW_H e
  have F4 : evH (evW hp h d2 b2 m2 (va_cpy tt2 tt 0 0 6) da th bk) h2 d2 b2 m2 tt2 da2 th2 bk2 := evH_other hd f
  have E5 : evH (evW hp h d2 b2 m2 (va_cpy tt2 tt 0 0 6) (va_cpy da2 da 0 0 40) th bk) h d2 b2 m2 (va_cpy tt2 tt 0 0 6) (va_cpy da2 da 0 0 40) th bk := evW_H e
  have F5 : evH (evW hp h d2 b2 m2 (va_cpy tt2 tt 0 0 6) (va_cpy da2 da 0 0 40) th bk) h2 d2 b2 m2 tt2 da2 th2 bk2 := evH_other hd f
  have E6 : evH (evW hp h d2 b2 m2 (va_cpy tt2 tt 0 0 6) (va_cpy da2 da 0 0 40) (va_cpy th2 th 0 0 40) bk) h d2 b2 m2 (va_cpy tt2 tt 0 0 6) (va_cpy da2 da 0 0 40) (va_cpy th2 th 0 0 40) bk := evW_H e
  have F6 : evH (evW hp h d2 b2 m2 (va_cpy tt2 tt 0 0 6) (va_cpy da2 da 0 0 40) (va_cpy th2 th 0 0 40) bk) h2 d2 b2 m2 tt2 da2 th2 bk2 := evH_other hd f
  have E7 : evH (evW hp h d2 b2 m2 (va_cpy tt2 tt 0 0 6) (va_cpy da2 da 0 0 40) (va_cpy th2 th 0 0 40) (va_cpy bk2 bk 0 0 40)) h d2 b2 m2 (va_cpy tt2 tt 0 0 6) (va_cpy da2 da 0 0 40) (va_cpy th2 th 0 0 40) (va_cpy bk2 bk 0 0 40) := evW_H e
  have F7 : evH (evW hp h d2 b2 m2 (va_cpy tt2 tt 0 0 6) (va_cpy da2 da 0 0 40) (va_cpy th2 th 0 0 40) (va_cpy bk2 bk 0 0 40)) h2 d2 b2 m2 tt2 da2 th2 bk2 := evH_other hd f
  have g0 : Go 0 [some (.ref h), some (.ref h2)] [] (evW hp h d b m tt da th bk) 0 0 := by
    refine hG 200 _ _ _ _ _ _ ?_
    refine am_ob_of F0.1 ?_
    refine am_ob_of E0.1 ?_
    show Go 8 [some (.ref h), some (.ref h2)] [] ((evW hp h d b m tt da th bk).set h (.inr (2, [.int d2, .int b, .int m, .ref (h + 1), .ref (h + 2), .ref (h + 3), .ref (h + 4)]))) 0 0
    rw [evW_0]
    refine hG 200 _ _ _ _ _ _ ?_
    refine am_ob_of F1.1 ?_
    refine am_ob_of E1.1 ?_
    show Go 16 [some (.ref h), some (.ref h2)] [] ((evW hp h d2 b m tt da th bk).set h (.inr (2, [.int d2, .int b2, .int m, .ref (h + 1), .ref (h + 2), .ref (h + 3), .ref (h + 4)]))) 0 0
    rw [evW_0]
    refine hG 200 _ _ _ _ _ _ ?_
    refine am_ob_of F2.1 ?_
    refine am_ob_of E2.1 ?_
    show Go 24 [some (.ref h), some (.ref h2)] [] ((evW hp h d2 b2 m tt da th bk).set h (.inr (2, [.int d2, .int b2, .int m2, .ref (h + 1), .ref (h + 2), .ref (h + 3), .ref (h + 4)]))) 0 0
    rw [evW_0]
    refine hG 200 _ _ _ _ _ _ ?_
    refine am_ob_of F3.1 ?_
    refine am_ob_of E3.1 ?_
    refine am_ai_of F3.2.1 rfl ?_
    refine am_ai_of E3.2.1 rfl ?_
    refine Exists.intro 6 (Exists.intro 0 (Exists.intro 0 ⟨rfl, rfl, rfl, by omega, by omega, ?_⟩))
    show Go 39 [some (.ref h), some (.ref h2)] [] ((evW hp h d2 b2 m2 tt da th bk).set (h + 1) (.inl (0, 6, .inl (va_cpy tt2 tt 0 0 6)))) 0 0
    rw [evW_1]
    refine hG 200 _ _ _ _ _ _ ?_
    refine am_ob_of F4.1 ?_
    refine am_ob_of E4.1 ?_
    refine am_ai_of F4.2.2.1 rfl ?_
    refine am_ai_of E4.2.2.1 rfl ?_
    refine Exists.intro 40 (Exists.intro 0 (Exists.intro 0 ⟨rfl, rfl, rfl, by omega, by omega, ?_⟩))
    show Go 54 [some (.ref h), some (.ref h2)] [] ((evW hp h d2 b2 m2 (va_cpy tt2 tt 0 0 6) da th bk).set (h + 2) (.inl (0, 40, .inl (va_cpy da2 da 0 0 40)))) 0 0
    rw [evW_2]
    refine hG 200 _ _ _ _ _ _ ?_
    refine am_ob_of F5.1 ?_
    refine am_ob_of E5.1 ?_
    refine am_ai_of F5.2.2.2.1 rfl ?_
    refine am_ai_of E5.2.2.2.1 rfl ?_
    refine Exists.intro 40 (Exists.intro 0 (Exists.intro 0 ⟨rfl, rfl, rfl, by omega, by omega, ?_⟩))
    show Go 69 [some (.ref h), some (.ref h2)] [] ((evW hp h d2 b2 m2 (va_cpy tt2 tt 0 0 6) (va_cpy da2 da 0 0 40) th bk).set (h + 3) (.inl (0, 40, .inl (va_cpy th2 th 0 0 40)))) 0 0
    rw [evW_3]
    refine hG 200 _ _ _ _ _ _ ?_
    refine am_ob_of F6.1 ?_
    refine am_ob_of E6.1 ?_
    refine am_ai_of F6.2.2.2.2 rfl ?_
    refine am_ai_of E6.2.2.2.2 rfl ?_
    refine Exists.intro 40 (Exists.intro 0 (Exists.intro 0 ⟨rfl, rfl, rfl, by omega, by omega, ?_⟩))
    exact ⟨rfl, evW_4, rfl, rfl⟩
  rw [evW_id e] at g0
  exact g0
end
section
/-! ===== the class's deeds ===== -/
theorem evC_push {d b m d' b' c t : Int32} {tt da th bk tt' : Nat → Int32} {n : Nat} {E : Evn} {du' th' : Nat → Nat} {bb : Nat} (h : evC d b m tt da th bk n E) (hE : E.1 < 40) (hd : d' = nI (pkN du' n)) (hc : c = nI bb) (hb : b' = b + c) (ht' : ∀ i, i < 6 → tt' i = nI (th' i)) (hz : ∀ i, n ≤ i → i < 6 → th' i = 0)
    (hth : (t = -nI 9 ∧ ∀ i, i < 6 → th' i = thE E i) ∨ ∃ z, z < n ∧ t = nI z ∧ ∀ i, i < 6 → th' i = thE E i + (if i = z then 1 else 0)) : evC d' b' (m + nI 1) tt' (upd da E.1 d) (upd th E.1 t) (upd bk E.1 c) n (pushE E du' th' (btE E + bb)) := by
  obtain ⟨h1, h2, h3, h4, h5, h6, h7⟩ := h
  refine ⟨by show E.1 + 1 ≤ 40; omega, by rw [h2]; exact nI_s1 _, ?_, ?_, fun i hi => ?_, fun q hq i h8 h9 => ?_, fun q hq => ?_⟩
  · have e := push_du E du' th' (btE E + bb)
    show d' = nI (pkN (duE (pushE E du' th' (btE E + bb))) n)
    rw [e]
    exact hd
  · have e := push_bt E du' th' (btE E + bb)
    show b' = nI (btE (pushE E du' th' (btE E + bb)))
    rw [e, hb, hc, h4, nI_add]
    rfl
  · have e := push_th E du' th' (btE E + bb)
    show tt' i = nI (thE (pushE E du' th' (btE E + bb)) i)
    rw [e]
    exact ht' i hi
  · have hq2 : q ≤ E.1 + 1 := hq
    by_cases hqe : q = E.1 + 1
    · have e : (pushE E du' th' (btE E + bb)).2.2.1 q = th' := if_pos hqe
      rw [e]
      exact hz i h8 h9
    · rw [(push_old (by omega)).2.1]
      exact h6 q (by omega) i h8 h9
  · have hq2 : q < E.1 + 1 := hq
    obtain ⟨o1, o2, o3⟩ := push_old (E := E) (d := du') (t := th') (b := btE E + bb) (q := q) (by omega)
    rw [o1, o2, o3]
    by_cases hqe : q = E.1
    · subst hqe
      have n2 : (pushE E du' th' (btE E + bb)).2.2.1 (E.1 + 1) = th' := if_pos rfl
      have n3 : (pushE E du' th' (btE E + bb)).2.2.2 (E.1 + 1) = btE E + bb := if_pos rfl
      rw [n2, n3, pk_us, pk_us, pk_us]
      exact ⟨h3, ⟨bb, hc, rfl⟩, hth⟩
    · obtain ⟨p1, p2, p3⟩ := push_old (E := E) (d := du') (t := th') (b := btE E + bb) (q := q + 1) (by omega)
      rw [p2, p3, pk_un hqe, pk_un hqe, pk_un hqe]
      exact h7 q (by omega)
def eI (I : Nat → Int32) (d b m : Int32) : Nat → Int32 := upd (upd (upd I 30 d) 31 b) 32 m
def eF (F : Nat → Nat → Int32) (tt da th bk : Nat → Int32) : Nat → Nat → Int32 := va_up (va_up (va_up (va_up F 9 tt) 10 da) 11 th) 12 bk
theorem eI_ne {I : Nat → Int32} {d b m : Int32} {j : Nat} (h : j ≠ 30 ∧ j ≠ 31 ∧ j ≠ 32) : eI I d b m j = I j := by
  unfold eI
  rw [pk_un h.2.2, pk_un h.2.1, pk_un h.1]
theorem eF_ne {F : Nat → Nat → Int32} {tt da th bk : Nat → Int32} {j : Nat} (h : j < 9 ∨ 12 < j) : eF F tt da th bk j = F j := by
  unfold eF
  rw [va_up_ne _ _ (by omega), va_up_ne _ _ (by omega), va_up_ne _ _ (by omega), va_up_ne _ _ (by omega)]
theorem cH_ev {I : Nat → Int32} {F : Nat → Nat → Int32} {u v : Int64} : evH (cH I F u v) 8 (I 30) (I 31) (I 32) (F 9) (F 10) (F 11) (F 12) := ⟨rfl, rfl, rfl, rfl, rfl⟩
theorem cH_evW {I : Nat → Int32} {F : Nat → Nat → Int32} {u v : Int64} (d b m : Int32) (tt da th bk : Nat → Int32) : evW (cH I F u v) 8 d b m tt da th bk = cH (eI I d b m) (eF F tt da th bk) u v := rfl
theorem cH_kp {I : Nat → Int32} {F : Nat → Nat → Int32} {u v : Int64} {k : Nat} (h : k < 3) : evH (cH I F u v) (38 + 5 * k) (I (40 + 3 * k)) (I (41 + 3 * k)) (I (42 + 3 * k)) (F (39 + 5 * k)) (F (40 + 5 * k)) (F (41 + 5 * k)) (F (42 + 5 * k)) := by
  rcases (show k = 0 ∨ k = 1 ∨ k = 2 by omega) with rfl | rfl | rfl <;> exact ⟨rfl, rfl, rfl, rfl, rfl⟩
def kI (I : Nat → Int32) (k : Nat) (d b m : Int32) : Nat → Int32 := upd (upd (upd I (40 + 3 * k) d) (41 + 3 * k) b) (42 + 3 * k) m
def kF (F : Nat → Nat → Int32) (k : Nat) (tt da th bk : Nat → Int32) : Nat → Nat → Int32 := va_up (va_up (va_up (va_up F (39 + 5 * k) tt) (40 + 5 * k) da) (41 + 5 * k) th) (42 + 5 * k) bk
theorem cH_kpW {I : Nat → Int32} {F : Nat → Nat → Int32} {u v : Int64} {k : Nat} (h : k < 3) (d b m : Int32) (tt da th bk : Nat → Int32) : evW (cH I F u v) (38 + 5 * k) d b m tt da th bk = cH (kI I k d b m) (kF F k tt da th bk) u v := by
  rcases (show k = 0 ∨ k = 1 ∨ k = 2 by omega) with rfl | rfl | rfl <;> rfl
theorem kI_ne {I : Nat → Int32} {k : Nat} {d b m : Int32} {j : Nat} (h : j ≠ 40 + 3 * k ∧ j ≠ 41 + 3 * k ∧ j ≠ 42 + 3 * k) : kI I k d b m j = I j := by
  unfold kI
  rw [pk_un h.2.2, pk_un h.2.1, pk_un h.1]
theorem kF_ne {F : Nat → Nat → Int32} {k : Nat} {tt da th bk : Nat → Int32} {j : Nat} (h : j < 39 + 5 * k ∨ 42 + 5 * k < j) : kF F k tt da th bk j = F j := by
  unfold kF
  rw [va_up_ne _ _ (by omega), va_up_ne _ _ (by omega), va_up_ne _ _ (by omega), va_up_ne _ _ (by omega)]
/-- the evening is another one, all else as it was -/
theorem RCx_ev {I : Nat → Int32} {F : Nat → Nat → Int32} {S : Sta} {d b m : Int32} {tt da th bk : Nat → Int32} {E2 : Evn} (hx : RCx I F S) (h : evC d b m tt da th bk (eN S) E2) (hg : gdE (eN S) E2) : RCx (eI I d b m) (eF F tt da th bk) (sE S E2) := by
  obtain ⟨⟨g1, g2, g3, g4, g5, g6⟩, hr, ht, hl⟩ := hx
  refine ⟨⟨by rw [eI_ne (by omega)]; exact g1, g2, fun i hi => by rw [eF_ne (by omega)]; exact g3 i hi, h, hg, fun q hq => ?_⟩, rowC_congr hr (fun j hj => eI_ne (by omega)) (fun j hj => eF_ne (by omega)), txtC_congr ht (fun j hj => eI_ne (by omega)) (fun j hj => eF_ne (by omega)), by rw [eI_ne (by omega)]; exact hl.1, by rw [eI_ne (by omega)]; exact hl.2.1, fun f hf => by rw [eF_ne (by omega)]; exact hl.2.2 f hf⟩
  have g7 := g6 q hq
  rw [eI_ne (by omega), eI_ne (by omega), eI_ne (by omega), eF_ne (by omega), eF_ne (by omega), eF_ne (by omega), eF_ne (by omega)]
  exact g7

theorem c_T_isThing (I : Nat → Int32) (F : Nat → Nat → Int32) (u v : Int64) (n : Nat) (hI : I 22 = nI n) (hn : n ≤ 6) (x : Int32) : Am_Ev false 0 0 0 40 [.ref 0, .int x] (cH I F u v) (some (.int (b2 (in3 x (nI 0) (nI n - nI 1))))) (cH I F u v) := by
  refine am_ev 2 (some .boolean) false [] ok_T_isThing am_mP_40 (by rw [am_m_40]) (by rw [am_m_40]) (fun h => by cases h) (Nat.le_of_ble_eq_true rfl) ?_
  intro Go hG
  have hh := hasI_in3 (k := n) (i := x) (by omega)
  refine hG 200 _ _ _ _ _ _ ?_
  refine And.intro (fun h1 => ?_) (fun h1 => And.intro (fun h2 => ?_) (fun h2 => ?_))
  · exact ⟨Or.inl rfl, by rw [← hh]; unfold hasI; rw [decide_eq_false (fun q => q h1)]; rfl, rfl, rfl, rfl⟩
  · rw [hI] at h2
    exact ⟨Or.inl rfl, by rw [← hh]; unfold hasI; rw [show decide (x < nI n) = false from decide_eq_false (Int32.not_lt.mpr h2), Bool.and_false]; rfl, rfl, rfl, rfl⟩
  · rw [hI] at h2
    exact ⟨Or.inr rfl, by rw [← hh]; unfold hasI; rw [decide_eq_true h1, decide_eq_true (Int32.not_le.mp h2)]; rfl, rfl, rfl, rfl⟩

theorem c_T_skyNow (I : Nat → Int32) (F : Nat → Nat → Int32) (u v : Int64) (n : Nat) (du : Nat → Nat) (hI : I 22 = nI n) (hn : n ≤ 6) (ha : le15 n du) (h30 : I 30 = nI (pkN du n)) : Am_Ev false 2 0 0 61 [.ref 0] (cH I F u v) (some (.int (skyS n du))) (cH I F u v) := by
  refine am_ev 1 (some .int) false [] ok_T_skyNow am_mP_61 (by rw [am_m_61]) (by rw [am_m_61]) (fun h => by cases h) (Nat.le_of_ble_eq_true rfl) ?_
  intro Go hG
  have hc := c_P_sky (cH I F u v) 6 7 n (by show some _ = some _; rw [hI]) hn (I 30)
  have eS : skyG (gP (I 30)) n = skyS n du := by rw [h30]; exact skyG_congr (fun k hk => gP_S ha hn hk)
  rw [eS] at hc
  refine hG 200 _ _ _ _ _ _ ?_
  refine Exists.intro 1 (Exists.intro _ (Exists.intro _ ⟨by decide, hc, ?_⟩))
  exact ⟨rfl, rfl, rfl, rfl⟩

theorem c_T_enterRest (I : Nat → Int32) (F : Nat → Nat → Int32) (u v : Int64) (n m : Nat) (du : Nat → Nat) (hI : I 22 = nI n) (hn : n ≤ 6) (ha : apart n du) (h30 : I 30 = nI (pkN du n)) (h32 : I 32 = nI m) (hm : m < 40) (hp1 : ∀ k, k < n → 1 ≤ du k) : Am_Ev false 2 0 0 63 [.ref 0] (cH I F u v) (none) (cH (eI I (nI (pkN (latS 1 du) n)) (I 31 + nI 1) (I 32 + nI 1)) (eF F (F 9) (upd (F 10) m (I 30)) (upd (F 11) m (-nI 9)) (upd (F 12) m (nI 1))) u v) := by
  refine am_ev 1 none false [] ok_T_enterRest am_mP_63 (by rw [am_m_63]) (by rw [am_m_63]) (fun h => by cases h) (Nat.le_of_ble_eq_true rfl) ?_
  intro Go hG
  have hc := c_P_later (cH I F u v) 6 7 n (by show some _ = some _; rw [hI]) hn (I 30) (nI 1)
  rw [show latP n (I 30) (nI 1) = nI (pkN (latS 1 du) n) by rw [h30]; exact latP_S hn hp1] at hc
  have he := c_E_enter (cH I F u v) 8 (I 30) (I 31) (I 32) (F 9) (F 10) (F 11) (F 12) cH_ev m (nI (pkN (latS 1 du) n)) (-nI 9) (nI 1) h32 hm (Or.inl rfl)
  rw [if_pos rfl, cH_evW] at he
  refine hG 200 _ _ _ _ _ _ ?_
  refine Exists.intro 0 (Exists.intro _ (Exists.intro _ ⟨by decide, hc, ?_⟩))
  refine Exists.intro 1 (Exists.intro _ (Exists.intro _ ⟨by decide, he, ?_⟩))
  exact ⟨rfl, rfl, rfl, rfl⟩

theorem c_T_enterExchange (I : Nat → Int32) (F : Nat → Nat → Int32) (u v : Int64) (n m : Nat) (du : Nat → Nat) (hI : I 22 = nI n) (hn : n ≤ 6) (ha : apart n du) (h30 : I 30 = nI (pkN du n)) (h32 : I 32 = nI m) (hm : m < 40) (i j : Nat) (hi : i < n) (hj : j < n) : Am_Ev false 2 0 0 65 [.ref 0, .int (nI i), .int (nI j)] (cH I F u v) (none) (cH (eI I (nI (pkN (swpS du i j) n)) (I 31 + nI 0) (I 32 + nI 1)) (eF F (F 9) (upd (F 10) m (I 30)) (upd (F 11) m (-nI 9)) (upd (F 12) m (nI 0))) u v) := by
  refine am_ev 3 none false [] ok_T_enterExchange am_mP_65 (by rw [am_m_65]) (by rw [am_m_65]) (fun h => by cases h) (Nat.le_of_ble_eq_true rfl) ?_
  intro Go hG
  have hc := c_P_exchanged (cH I F u v) (I 30) (nI i) (nI j)
  rw [show withP (withP (I 30) (nI i) (dueP (I 30) (nI j))) (nI j) (dueP (I 30) (nI i)) = nI (pkN (swpS du i j) n) by rw [h30]; exact exch_S (le15_of ha) hn hi hj] at hc
  have he := c_E_enter (cH I F u v) 8 (I 30) (I 31) (I 32) (F 9) (F 10) (F 11) (F 12) cH_ev m (nI (pkN (swpS du i j) n)) (-nI 9) (nI 0) h32 hm (Or.inl rfl)
  rw [if_pos rfl, cH_evW] at he
  refine hG 200 _ _ _ _ _ _ ?_
  refine Exists.intro 1 (Exists.intro _ (Exists.intro _ ⟨by decide, hc, ?_⟩))
  refine Exists.intro 1 (Exists.intro _ (Exists.intro _ ⟨by decide, he, ?_⟩))
  exact ⟨rfl, rfl, rfl, rfl⟩

theorem c_T_enterThrow (I : Nat → Int32) (F : Nat → Nat → Int32) (u v : Int64) (n m : Nat) (du : Nat → Nat) (hI : I 22 = nI n) (hn : n ≤ 6) (ha : apart n du) (h30 : I 30 = nI (pkN du n)) (h32 : I 32 = nI m) (hm : m < 40) (kd : Nat → Nat) (hk : ∀ i, i < n → F 7 i = nI (kd i) ∧ kd i < 6) (h : Nat) (hh : 1 ≤ h ∧ h ≤ 7) (hmay : mayS n kd du (nI h) = true) : Am_Ev false 3 0 0 56 [.ref 0, .int (nI h)] (cH I F u v) (none) (cH (eI I (nI (pkN (tosS n kd du h) n)) (I 31 + nI 1) (I 32 + nI 1)) (eF F (upd (F 9) (dueS n du) (F 9 (dueS n du) + nI 1)) (upd (F 10) m (I 30)) (upd (F 11) m (nI (dueS n du))) (upd (F 12) m (nI 1))) u v) := by
  refine am_ev 3 none false [] ok_T_enterThrow am_mP_56 (by rw [am_m_56]) (by rw [am_m_56]) (fun h => by cases h) (Nat.le_of_ble_eq_true rfl) ?_
  intro Go hG
  have hg : ∀ k, k < n → gP (I 30) k = gN du k := fun k hk2 => by rw [h30]; exact gP_S (le15_of ha) hn hk2
  obtain ⟨hi, hv, hf⟩ := (mayS_iff ha.1 (fun i q => (hk i q).2) hh).mp hmay
  obtain ⟨ap1, ap2⟩ := tos_pos ha (fun i q => (hk i q).2) hh hmay
  have hdu : dueG (gP (I 30)) n 0 = dueS n du := dueG_congr hg n 0 (by omega)
  have hc := c_P_dueNow (cH I F u v) 6 7 n (by show some _ = some _; rw [hI]) hn (I 30)
  rw [hdu, dueR_yes hi] at hc
  have hc2 := c_P_thrown (cH I F u v) 6 7 n (by show some _ = some _; rw [hI]) hn kd (F 7) rfl hk (I 30) h (dueS n du) hh hdu hi
  have e1 : withP (I 30) (nI (dueS n du)) (landI (F 7 (dueS n du)) (nI h)) = nI (pkN (setS du (dueS n du) (lnd (kd (dueS n du)) h)) n) := by
    rw [h30, (hk _ hi).1, landI_S (hk _ hi).2 hh]
    unfold ldR
    rw [if_neg hv]
    exact withP_S (le15_of ha) hn hi (by have := lnd_le (hk _ hi).2 hh; omega)
  rw [e1, latP_S hn ap2] at hc2
  have he := c_E_enter (cH I F u v) 8 (I 30) (I 31) (I 32) (F 9) (F 10) (F 11) (F 12) cH_ev m (nI (pkN (tosS n kd du h) n)) (nI (dueS n du)) (nI 1) h32 hm (Or.inr ⟨_, by omega, rfl⟩)
  rw [if_neg (nI_m9 (by omega)), nat_nI (by omega), cH_evW] at he
  refine hG 200 _ _ _ _ _ _ ?_
  refine Exists.intro 1 (Exists.intro _ (Exists.intro _ ⟨by decide, hc, ?_⟩))
  refine Exists.intro 2 (Exists.intro _ (Exists.intro _ ⟨by decide, hc2, ?_⟩))
  refine Exists.intro 1 (Exists.intro _ (Exists.intro _ ⟨by decide, he, ?_⟩))
  exact ⟨rfl, rfl, rfl, rfl⟩

theorem pc_T_toss (S : Sta) (hp : List Am_C) (hRM : RC S hp) (h : Int32) : ∃ hp', Am_Ev false 6 0 0 50 [.ref 0, .int h] hp (some (.int (spToss S h).1)) hp' ∧ RC (spToss S h).2 hp' := by
  obtain ⟨I, F, rfl, hx⟩ := hRM
  obtain ⟨hs, hr, ht, hl⟩ := id hx
  obtain ⟨g1, g2, g3, g4, g5, g6⟩ := hs
  have hI : I 22 = nI (eN S) := g1
  have hn : eN S ≤ 6 := g2
  have hk : ∀ i, i < eN S → F 7 i = nI (eK S i) ∧ eK S i < 6 := g3
  have hE : evC (I 30) (I 31) (I 32) (F 9) (F 10) (F 11) (F 12) (eN S) (eE S) := g4
  have hG5 : gdE (eN S) (eE S) := g5
  have hap : apart (eN S) (duE (eE S)) := hG5 _ (Nat.le_refl _)
  obtain ⟨v1, v2, v3, v4, v5, v6, v7⟩ := id hE
  have h30 : I 30 = nI (pkN (duE (eE S)) (eN S)) := v3
  have hg : ∀ k, k < eN S → gP (I 30) k = gN (duE (eE S)) k := fun k hk2 => by rw [h30]; exact gP_S (le15_of hap) hn hk2
  have eDue : dueG (gP (I 30)) (eN S) 0 = dueS (eN S) (duE (eE S)) := dueG_congr hg _ 0 (by omega)
  have eMay : ∀ z, mayG (gP (I 30)) (F 7) (eN S) z = mayS (eN S) (eK S) (duE (eE S)) z := fun z => mayG_congr hg (fun k q => (hk k q).1) z
  unfold spToss
  have hfu := c_E_isFull (cH I F S.2.2.2.2.2.2.1 S.2.2.2.2.2.2.2) 8 (I 30) (I 31) (I 32) (F 9) (F 10) (F 11) (F 12) cH_ev
  have hc := c_T_isHeight (cH I F S.2.2.2.2.2.2.1 S.2.2.2.2.2.2.2) h
  cases ho : okH h with
  | false =>
    rw [if_pos rfl]
    rw [show in3 h (nI 1) (nI 7) = false from ho] at hc
    refine ⟨_, am_ev 2 (some .int) false [] ok_T_toss am_mP_50 (by rw [am_m_50]) (by rw [am_m_50]) (fun h => by cases h) (Nat.le_of_ble_eq_true rfl) (fun Go hG => ?_), RC_of hx⟩
    refine hG 200 _ _ _ _ _ _ ?_
    refine Exists.intro 0 (Exists.intro _ (Exists.intro _ ⟨by decide, hc, ?_⟩))
    refine bn_f rfl ?_
    exact ⟨rfl, rfl, rfl, rfl⟩
  | true =>
    rw [if_neg (by decide)]
    rw [show in3 h (nI 1) (nI 7) = true from ho] at hc
    obtain ⟨q, hq1, hq2, rfl⟩ := in3_nat (by decide) (by decide) ho
    rw [nat_nI (by omega)]
    have hmc := c_P_mayGo (cH I F S.2.2.2.2.2.2.1 S.2.2.2.2.2.2.2) 6 7 (eN S) (by show some _ = some _; rw [hI]) hn (eK S) (F 7) rfl hk (I 30) q ⟨hq1, hq2⟩
    rw [eMay] at hmc
    cases hm : mayS (eN S) (eK S) (duE (eE S)) (nI q) with
    | false =>
      rw [if_pos rfl]
      rw [hm] at hmc
      refine ⟨_, am_ev 2 (some .int) false [] ok_T_toss am_mP_50 (by rw [am_m_50]) (by rw [am_m_50]) (fun h => by cases h) (Nat.le_of_ble_eq_true rfl) (fun Go hG => ?_), RC_of hx⟩
      refine hG 200 _ _ _ _ _ _ ?_
      refine Exists.intro 0 (Exists.intro _ (Exists.intro _ ⟨by decide, hc, ?_⟩))
      refine bn_t (by decide) ?_
      refine Exists.intro 2 (Exists.intro _ (Exists.intro _ ⟨by decide, hmc, ?_⟩))
      refine bn_f rfl ?_
      exact ⟨rfl, rfl, rfl, rfl⟩
    | true =>
      rw [if_neg (by decide)]
      rw [hm] at hmc
      by_cases h40 : (eE S).1 = 40
      · rw [if_pos h40]
        rw [decide_eq_true (show nI 40 ≤ I 32 by rw [v2, h40]; decide)] at hfu
        refine ⟨_, am_ev 2 (some .int) false [] ok_T_toss am_mP_50 (by rw [am_m_50]) (by rw [am_m_50]) (fun h => by cases h) (Nat.le_of_ble_eq_true rfl) (fun Go hG => ?_), RC_of hx⟩
        refine hG 200 _ _ _ _ _ _ ?_
        refine Exists.intro 0 (Exists.intro _ (Exists.intro _ ⟨by decide, hc, ?_⟩))
        refine bn_t (by decide) ?_
        refine Exists.intro 2 (Exists.intro _ (Exists.intro _ ⟨by decide, hmc, ?_⟩))
        refine bn_t (by decide) ?_
        refine Exists.intro 0 (Exists.intro _ (Exists.intro _ ⟨by decide, hfu, ?_⟩))
        refine br_f (by decide) ?_
        exact ⟨rfl, rfl, rfl, rfl⟩
      · rw [if_neg h40]
        have hlt : (eE S).1 < 40 := by omega
        rw [decide_eq_false (show ¬ nI 40 ≤ I 32 by rw [v2]; exact nI_ge hlt (by omega))] at hfu
        obtain ⟨hi, hv, hf⟩ := (mayS_iff hap.1 (fun i q => (hk i q).2) ⟨hq1, hq2⟩).mp hm
        have ht := c_T_enterThrow I F S.2.2.2.2.2.2.1 S.2.2.2.2.2.2.2 (eN S) (eE S).1 (duE (eE S)) hI hn hap h30 v2 hlt (eK S) hk q ⟨hq1, hq2⟩ hm
        have ap3 := apart_tos hap (fun i q => (hk i q).2) ⟨hq1, hq2⟩ hm
        have hx2 := RCx_ev (E2 := tossE (eN S) (eK S) (eE S) q) hx (evC_push (du' := tosS (eN S) (eK S) (duE (eE S)) q) (th' := incS (thE (eE S)) (dueS (eN S) (duE (eE S)))) (bb := 1) (tt' := upd (F 9) (dueS (eN S) (duE (eE S))) (F 9 (dueS (eN S) (duE (eE S))) + nI 1)) (t := nI (dueS (eN S) (duE (eE S)))) hE hlt rfl rfl rfl (fun i hi2 => ?_) (fun i h1 h2 => ?_) (Or.inr ⟨_, hi, rfl, fun i _ => rfl⟩)) (gdE_push hG5 ap3)
        · have hsk := c_T_skyNow (eI I (nI (pkN (tosS (eN S) (eK S) (duE (eE S)) q) (eN S))) (I 31 + nI 1) (I 32 + nI 1)) (eF F (upd (F 9) (dueS (eN S) (duE (eE S))) (F 9 (dueS (eN S) (duE (eE S))) + nI 1)) (upd (F 10) (eE S).1 (I 30)) (upd (F 11) (eE S).1 (nI (dueS (eN S) (duE (eE S))))) (upd (F 12) (eE S).1 (nI 1))) S.2.2.2.2.2.2.1 S.2.2.2.2.2.2.2 (eN S) (tosS (eN S) (eK S) (duE (eE S)) q) hI hn (le15_of ap3) rfl
          refine ⟨_, am_ev 2 (some .int) false [] ok_T_toss am_mP_50 (by rw [am_m_50]) (by rw [am_m_50]) (fun h => by cases h) (Nat.le_of_ble_eq_true rfl) (fun Go hG => ?_), RC_of hx2⟩
          refine hG 200 _ _ _ _ _ _ ?_
          refine Exists.intro 0 (Exists.intro _ (Exists.intro _ ⟨by decide, hc, ?_⟩))
          refine bn_t (by decide) ?_
          refine Exists.intro 2 (Exists.intro _ (Exists.intro _ ⟨by decide, hmc, ?_⟩))
          refine bn_t (by decide) ?_
          refine Exists.intro 0 (Exists.intro _ (Exists.intro _ ⟨by decide, hfu, ?_⟩))
          refine br_t rfl ?_
          refine Exists.intro 3 (Exists.intro _ (Exists.intro _ ⟨by decide, ht, ?_⟩))
          refine Exists.intro 2 (Exists.intro _ (Exists.intro _ ⟨by decide, hsk, ?_⟩))
          exact ⟨rfl, rfl, rfl, rfl⟩
        · unfold incS upd
          by_cases hid : i = dueS (eN S) (duE (eE S))
          · rw [if_pos hid, if_pos hid, ← hid, v5 i hi2, nI_s1]
            rfl
          · rw [if_neg hid, if_neg hid, v5 i hi2]
            rfl
        · unfold incS
          rw [if_neg (by omega)]
          exact v6 _ (Nat.le_refl _) i h1 h2

theorem pc_T_rest (S : Sta) (hp : List Am_C) (hRM : RC S hp)  : ∃ hp', Am_Ev false 6 0 0 62 [.ref 0] hp (some (.int (spRest S).1)) hp' ∧ RC (spRest S).2 hp' := by
  obtain ⟨I, F, rfl, hx⟩ := hRM
  obtain ⟨hs, hr, ht, hl⟩ := id hx
  obtain ⟨g1, g2, g3, g4, g5, g6⟩ := hs
  have hI : I 22 = nI (eN S) := g1
  have hn : eN S ≤ 6 := g2
  have hk : ∀ i, i < eN S → F 7 i = nI (eK S i) ∧ eK S i < 6 := g3
  have hE : evC (I 30) (I 31) (I 32) (F 9) (F 10) (F 11) (F 12) (eN S) (eE S) := g4
  have hG5 : gdE (eN S) (eE S) := g5
  have hap : apart (eN S) (duE (eE S)) := hG5 _ (Nat.le_refl _)
  obtain ⟨v1, v2, v3, v4, v5, v6, v7⟩ := id hE
  have h30 : I 30 = nI (pkN (duE (eE S)) (eN S)) := v3
  have hg : ∀ k, k < eN S → gP (I 30) k = gN (duE (eE S)) k := fun k hk2 => by rw [h30]; exact gP_S (le15_of hap) hn hk2
  have eDue : dueG (gP (I 30)) (eN S) 0 = dueS (eN S) (duE (eE S)) := dueG_congr hg _ 0 (by omega)
  have eMay : ∀ z, mayG (gP (I 30)) (F 7) (eN S) z = mayS (eN S) (eK S) (duE (eE S)) z := fun z => mayG_congr hg (fun k q => (hk k q).1) z
  unfold spRest
  have hfu := c_E_isFull (cH I F S.2.2.2.2.2.2.1 S.2.2.2.2.2.2.2) 8 (I 30) (I 31) (I 32) (F 9) (F 10) (F 11) (F 12) cH_ev
  by_cases h0 : eN S = 0
  · rw [if_pos h0]
    refine ⟨_, am_ev 1 (some .int) false [] ok_T_rest am_mP_62 (by rw [am_m_62]) (by rw [am_m_62]) (fun h => by cases h) (Nat.le_of_ble_eq_true rfl) (fun Go hG => ?_), RC_of hx⟩
    refine hG 200 _ _ _ _ _ _ ?_
    refine br_t (by rw [hI, h0]; rfl) ?_
    exact ⟨rfl, rfl, rfl, rfl⟩
  · rw [if_neg h0]
    have hz : ¬ I 22 = 0 := by rw [hI]; exact nI_ne0 (by omega) (by omega)
    have hdc := c_P_dueNow (cH I F S.2.2.2.2.2.2.1 S.2.2.2.2.2.2.2) 6 7 (eN S) (by show some _ = some _; rw [hI]) hn (I 30)
    rw [eDue] at hdc
    by_cases hd : dueS (eN S) (duE (eE S)) < eN S
    · rw [if_pos hd]
      rw [dueR_yes hd] at hdc
      refine ⟨_, am_ev 1 (some .int) false [] ok_T_rest am_mP_62 (by rw [am_m_62]) (by rw [am_m_62]) (fun h => by cases h) (Nat.le_of_ble_eq_true rfl) (fun Go hG => ?_), RC_of hx⟩
      refine hG 200 _ _ _ _ _ _ ?_
      refine br_f hz ?_
      refine Exists.intro 1 (Exists.intro _ (Exists.intro _ ⟨by decide, hdc, ?_⟩))
      refine br_f (nI_m9 (by omega)) ?_
      exact ⟨rfl, rfl, rfl, rfl⟩
    · rw [if_neg hd]
      rw [dueR_no hd] at hdc
      by_cases h40 : (eE S).1 = 40
      · rw [if_pos h40]
        rw [decide_eq_true (show nI 40 ≤ I 32 by rw [v2, h40]; decide)] at hfu
        refine ⟨_, am_ev 1 (some .int) false [] ok_T_rest am_mP_62 (by rw [am_m_62]) (by rw [am_m_62]) (fun h => by cases h) (Nat.le_of_ble_eq_true rfl) (fun Go hG => ?_), RC_of hx⟩
        refine hG 200 _ _ _ _ _ _ ?_
        refine br_f hz ?_
        refine Exists.intro 1 (Exists.intro _ (Exists.intro _ ⟨by decide, hdc, ?_⟩))
        refine br_t rfl ?_
        refine Exists.intro 0 (Exists.intro _ (Exists.intro _ ⟨by decide, hfu, ?_⟩))
        refine br_f (by decide) ?_
        exact ⟨rfl, rfl, rfl, rfl⟩
      · rw [if_neg h40]
        have hlt : (eE S).1 < 40 := by omega
        rw [decide_eq_false (show ¬ nI 40 ≤ I 32 by rw [v2]; exact nI_ge hlt (by omega))] at hfu
        have hpos := dueS_pos hd
        have ap3 := apart_lat hap hpos
        have ht := c_T_enterRest I F S.2.2.2.2.2.2.1 S.2.2.2.2.2.2.2 (eN S) (eE S).1 (duE (eE S)) hI hn hap h30 v2 hlt hpos
        have hx2 := RCx_ev (E2 := restE (eE S)) hx (evC_push (du' := latS 1 (duE (eE S))) (th' := thE (eE S)) (bb := 1) (tt' := F 9) (t := -nI 9) hE hlt rfl rfl rfl v5 (fun i h1 h2 => v6 _ (Nat.le_refl _) i h1 h2) (Or.inl ⟨rfl, fun i _ => rfl⟩)) (gdE_push hG5 ap3)
        have hsk := c_T_skyNow (eI I (nI (pkN (latS 1 (duE (eE S))) (eN S))) (I 31 + nI 1) (I 32 + nI 1)) (eF F (F 9) (upd (F 10) (eE S).1 (I 30)) (upd (F 11) (eE S).1 (-nI 9)) (upd (F 12) (eE S).1 (nI 1))) S.2.2.2.2.2.2.1 S.2.2.2.2.2.2.2 (eN S) (latS 1 (duE (eE S))) hI hn (le15_of ap3) rfl
        refine ⟨_, am_ev 1 (some .int) false [] ok_T_rest am_mP_62 (by rw [am_m_62]) (by rw [am_m_62]) (fun h => by cases h) (Nat.le_of_ble_eq_true rfl) (fun Go hG => ?_), RC_of hx2⟩
        refine hG 200 _ _ _ _ _ _ ?_
        refine br_f hz ?_
        refine Exists.intro 1 (Exists.intro _ (Exists.intro _ ⟨by decide, hdc, ?_⟩))
        refine br_t rfl ?_
        refine Exists.intro 0 (Exists.intro _ (Exists.intro _ ⟨by decide, hfu, ?_⟩))
        refine br_t rfl ?_
        refine Exists.intro 2 (Exists.intro _ (Exists.intro _ ⟨by decide, ht, ?_⟩))
        refine Exists.intro 2 (Exists.intro _ (Exists.intro _ ⟨by decide, hsk, ?_⟩))
        exact ⟨rfl, rfl, rfl, rfl⟩

theorem pc_T_exchange (S : Sta) (hp : List Am_C) (hRM : RC S hp) (i j : Int32) : ∃ hp', Am_Ev false 6 0 0 64 [.ref 0, .int i, .int j] hp (some (.int (spExch S i j).1)) hp' ∧ RC (spExch S i j).2 hp' := by
  obtain ⟨I, F, rfl, hx⟩ := hRM
  obtain ⟨hs, hr, ht, hl⟩ := id hx
  obtain ⟨g1, g2, g3, g4, g5, g6⟩ := hs
  have hI : I 22 = nI (eN S) := g1
  have hn : eN S ≤ 6 := g2
  have hk : ∀ i, i < eN S → F 7 i = nI (eK S i) ∧ eK S i < 6 := g3
  have hE : evC (I 30) (I 31) (I 32) (F 9) (F 10) (F 11) (F 12) (eN S) (eE S) := g4
  have hG5 : gdE (eN S) (eE S) := g5
  have hap : apart (eN S) (duE (eE S)) := hG5 _ (Nat.le_refl _)
  obtain ⟨v1, v2, v3, v4, v5, v6, v7⟩ := id hE
  have h30 : I 30 = nI (pkN (duE (eE S)) (eN S)) := v3
  have hg : ∀ k, k < eN S → gP (I 30) k = gN (duE (eE S)) k := fun k hk2 => by rw [h30]; exact gP_S (le15_of hap) hn hk2
  have eDue : dueG (gP (I 30)) (eN S) 0 = dueS (eN S) (duE (eE S)) := dueG_congr hg _ 0 (by omega)
  have eMay : ∀ z, mayG (gP (I 30)) (F 7) (eN S) z = mayS (eN S) (eK S) (duE (eE S)) z := fun z => mayG_congr hg (fun k q => (hk k q).1) z
  unfold spExch
  have hfu := c_E_isFull (cH I F S.2.2.2.2.2.2.1 S.2.2.2.2.2.2.2) 8 (I 30) (I 31) (I 32) (F 9) (F 10) (F 11) (F 12) cH_ev
  have hc1 := c_T_isThing I F S.2.2.2.2.2.2.1 S.2.2.2.2.2.2.2 (eN S) hI hn i
  cases ho : okI S i with
  | false =>
    rw [if_pos rfl]
    rw [show in3 i (nI 0) (nI (eN S) - nI 1) = false from ho] at hc1
    refine ⟨_, am_ev 3 (some .int) false [] ok_T_exchange am_mP_64 (by rw [am_m_64]) (by rw [am_m_64]) (fun h => by cases h) (Nat.le_of_ble_eq_true rfl) (fun Go hG => ?_), RC_of hx⟩
    refine hG 200 _ _ _ _ _ _ ?_
    refine Exists.intro 0 (Exists.intro _ (Exists.intro _ ⟨by decide, hc1, ?_⟩))
    refine br_t rfl ?_
    exact ⟨rfl, rfl, rfl, rfl⟩
  | true =>
    rw [if_neg (by decide)]
    rw [show in3 i (nI 0) (nI (eN S) - nI 1) = true from ho] at hc1
    obtain ⟨a, ha, rfl⟩ := in3_nat2 (k := eN S) (by omega) rfl ho
    rw [nat_nI (by omega)]
    have hc2 := c_T_isThing I F S.2.2.2.2.2.2.1 S.2.2.2.2.2.2.2 (eN S) hI hn j
    cases ho2 : okI S j with
    | false =>
      rw [if_pos rfl]
      rw [show in3 j (nI 0) (nI (eN S) - nI 1) = false from ho2] at hc2
      refine ⟨_, am_ev 3 (some .int) false [] ok_T_exchange am_mP_64 (by rw [am_m_64]) (by rw [am_m_64]) (fun h => by cases h) (Nat.le_of_ble_eq_true rfl) (fun Go hG => ?_), RC_of hx⟩
      refine hG 200 _ _ _ _ _ _ ?_
      refine Exists.intro 0 (Exists.intro _ (Exists.intro _ ⟨by decide, hc1, ?_⟩))
      refine br_f (by decide) ?_
      refine Exists.intro 0 (Exists.intro _ (Exists.intro _ ⟨by decide, hc2, ?_⟩))
      refine br_t rfl ?_
      exact ⟨rfl, rfl, rfl, rfl⟩
    | true =>
      rw [if_neg (by decide)]
      rw [show in3 j (nI 0) (nI (eN S) - nI 1) = true from ho2] at hc2
      obtain ⟨b, hb, rfl⟩ := in3_nat2 (k := eN S) (by omega) rfl ho2
      rw [nat_nI (by omega)]
      by_cases hab : nI a = nI b
      · rw [if_pos hab]
        refine ⟨_, am_ev 3 (some .int) false [] ok_T_exchange am_mP_64 (by rw [am_m_64]) (by rw [am_m_64]) (fun h => by cases h) (Nat.le_of_ble_eq_true rfl) (fun Go hG => ?_), RC_of hx⟩
        refine hG 200 _ _ _ _ _ _ ?_
        refine Exists.intro 0 (Exists.intro _ (Exists.intro _ ⟨by decide, hc1, ?_⟩))
        refine br_f (by decide) ?_
        refine Exists.intro 0 (Exists.intro _ (Exists.intro _ ⟨by decide, hc2, ?_⟩))
        refine br_f (by decide) ?_
        refine bn_f hab ?_
        exact ⟨rfl, rfl, rfl, rfl⟩
      · rw [if_neg hab]
        by_cases h40 : (eE S).1 = 40
        · rw [if_pos h40]
          rw [decide_eq_true (show nI 40 ≤ I 32 by rw [v2, h40]; decide)] at hfu
          refine ⟨_, am_ev 3 (some .int) false [] ok_T_exchange am_mP_64 (by rw [am_m_64]) (by rw [am_m_64]) (fun h => by cases h) (Nat.le_of_ble_eq_true rfl) (fun Go hG => ?_), RC_of hx⟩
          refine hG 200 _ _ _ _ _ _ ?_
          refine Exists.intro 0 (Exists.intro _ (Exists.intro _ ⟨by decide, hc1, ?_⟩))
          refine br_f (by decide) ?_
          refine Exists.intro 0 (Exists.intro _ (Exists.intro _ ⟨by decide, hc2, ?_⟩))
          refine br_f (by decide) ?_
          refine bn_t hab ?_
          refine Exists.intro 0 (Exists.intro _ (Exists.intro _ ⟨by decide, hfu, ?_⟩))
          refine br_f (by decide) ?_
          exact ⟨rfl, rfl, rfl, rfl⟩
        · rw [if_neg h40]
          have hlt : (eE S).1 < 40 := by omega
          rw [decide_eq_false (show ¬ nI 40 ≤ I 32 by rw [v2]; exact nI_ge hlt (by omega))] at hfu
          have ap3 := apart_swp hap ha hb
          have ht := c_T_enterExchange I F S.2.2.2.2.2.2.1 S.2.2.2.2.2.2.2 (eN S) (eE S).1 (duE (eE S)) hI hn hap h30 v2 hlt a b ha hb
          have hx2 := RCx_ev (E2 := exchE (eE S) a b) hx (evC_push (du' := swpS (duE (eE S)) a b) (th' := thE (eE S)) (bb := 0) (tt' := F 9) (t := -nI 9) hE hlt rfl rfl rfl v5 (fun i h1 h2 => v6 _ (Nat.le_refl _) i h1 h2) (Or.inl ⟨rfl, fun i _ => rfl⟩)) (gdE_push hG5 ap3)
          have hsk := c_T_skyNow (eI I (nI (pkN (swpS (duE (eE S)) a b) (eN S))) (I 31 + nI 0) (I 32 + nI 1)) (eF F (F 9) (upd (F 10) (eE S).1 (I 30)) (upd (F 11) (eE S).1 (-nI 9)) (upd (F 12) (eE S).1 (nI 0))) S.2.2.2.2.2.2.1 S.2.2.2.2.2.2.2 (eN S) (swpS (duE (eE S)) a b) hI hn (le15_of ap3) rfl
          refine ⟨_, am_ev 3 (some .int) false [] ok_T_exchange am_mP_64 (by rw [am_m_64]) (by rw [am_m_64]) (fun h => by cases h) (Nat.le_of_ble_eq_true rfl) (fun Go hG => ?_), RC_of hx2⟩
          refine hG 200 _ _ _ _ _ _ ?_
          refine Exists.intro 0 (Exists.intro _ (Exists.intro _ ⟨by decide, hc1, ?_⟩))
          refine br_f (by decide) ?_
          refine Exists.intro 0 (Exists.intro _ (Exists.intro _ ⟨by decide, hc2, ?_⟩))
          refine br_f (by decide) ?_
          refine bn_t hab ?_
          refine Exists.intro 0 (Exists.intro _ (Exists.intro _ ⟨by decide, hfu, ?_⟩))
          refine br_t rfl ?_
          refine Exists.intro 2 (Exists.intro _ (Exists.intro _ ⟨by decide, ht, ?_⟩))
          refine Exists.intro 2 (Exists.intro _ (Exists.intro _ ⟨by decide, hsk, ?_⟩))
          exact ⟨rfl, rfl, rfl, rfl⟩
end
section
/-! ===== the class: undo, keep, on, lands, may ===== -/
theorem evC_congr {d b m : Int32} {tt da th bk tt' da' th' bk' : Nat → Int32} {n : Nat} {E : Evn} (h : evC d b m tt da th bk n E) (h1 : ∀ i, i < 6 → tt' i = tt i) (h2 : ∀ q, q < 40 → da' q = da q ∧ th' q = th q ∧ bk' q = bk q) : evC d b m tt' da' th' bk' n E := by
  obtain ⟨a1, a2, a3, a4, a5, a6, a7⟩ := h
  refine ⟨a1, a2, a3, a4, fun i hi => by rw [h1 i hi]; exact a5 i hi, a6, fun q hq => ?_⟩
  rw [(h2 q (by omega)).1, (h2 q (by omega)).2.1, (h2 q (by omega)).2.2]
  exact a7 q hq
theorem undB_S {d b m : Int32} {tt da th bk : Nat → Int32} {n : Nat} {E : Evn} (h : evC d b m tt da th bk n E) : ∀ (j q : Nat), j ≤ q → q ≤ E.1 → undB bk j q (nI (E.2.2.2 q)) = nI (E.2.2.2 (q - j))
  | 0, q, _, _ => rfl
  | j + 1, q, h1, h2 => by
    obtain ⟨-, ⟨bb, e1, e2⟩, -⟩ := h.2.2.2.2.2.2 (q - 1) (by omega)
    rw [show q - 1 + 1 = q by omega] at e2
    have ih := undB_S h j (q - 1) (by omega) (by omega)
    show undB bk j (q - 1) (nI (E.2.2.2 q) - bk (q - 1)) = _
    rw [e1, e2, pk_sub (by omega), show E.2.2.2 (q - 1) + bb - bb = E.2.2.2 (q - 1) by omega, ih, show q - 1 - j = q - (j + 1) by omega]
theorem undT_S {d b m : Int32} {tt da th bk : Nat → Int32} {n : Nat} {E : Evn} (h : evC d b m tt da th bk n E) (hn : n ≤ 6) : ∀ (j q : Nat) (t1 : Nat → Int32), j ≤ q → q ≤ E.1 → (∀ i, i < 6 → t1 i = nI (E.2.2.1 q i)) → ∀ i, i < 6 → undT th j q t1 i = nI (E.2.2.1 (q - j) i)
  | 0, q, t1, _, _, h3, i, hi => h3 i hi
  | j + 1, q, t1, h1, h2, h3, i, hi => by
    obtain ⟨-, -, e1⟩ := h.2.2.2.2.2.2 (q - 1) (by omega)
    rw [show q - 1 + 1 = q by omega] at e1
    show undT th j (q - 1) (if th (q - 1) = -nI 9 then t1 else upd t1 (nat (th (q - 1))) (t1 (nat (th (q - 1))) - nI 1)) i = _
    rw [show q - (j + 1) = q - 1 - j by omega]
    refine undT_S h hn j (q - 1) _ (by omega) (by omega) (fun k hk => ?_) i hi
    rcases e1 with ⟨e1, e2⟩ | ⟨z, hz, e1, e2⟩
    · rw [if_pos e1, h3 k hk, e2 k hk]
    · rw [if_neg (by rw [e1]; exact nI_m9 (by omega)), e1, nat_nI (by omega)]
      unfold upd
      by_cases hkz : k = z
      · rw [if_pos hkz, ← hkz, h3 k hk, e2 k hk, if_pos hkz, pk_sub (by omega)]
        rfl
      · rw [if_neg hkz, h3 k hk, e2 k hk, if_neg hkz]
        rfl

theorem pc_T_undo (S : Sta) (hp : List Am_C) (hRM : RC S hp) (t : Int32) : ∃ hp', Am_Ev false 6 0 0 67 [.ref 0, .int t] hp (some (.int (spUndo S t).1)) hp' ∧ RC (spUndo S t).2 hp' := by
  obtain ⟨I, F, rfl, hx⟩ := hRM
  obtain ⟨hs, hr, ht, hl⟩ := id hx
  obtain ⟨g1, g2, g3, g4, g5, g6⟩ := hs
  have hI : I 22 = nI (eN S) := g1
  have hn : eN S ≤ 6 := g2
  have hk : ∀ i, i < eN S → F 7 i = nI (eK S i) ∧ eK S i < 6 := g3
  have hE : evC (I 30) (I 31) (I 32) (F 9) (F 10) (F 11) (F 12) (eN S) (eE S) := g4
  have hG5 : gdE (eN S) (eE S) := g5
  have hap : apart (eN S) (duE (eE S)) := hG5 _ (Nat.le_refl _)
  obtain ⟨v1, v2, v3, v4, v5, v6, v7⟩ := id hE
  have h30 : I 30 = nI (pkN (duE (eE S)) (eN S)) := v3
  have hg : ∀ k, k < eN S → gP (I 30) k = gN (duE (eE S)) k := fun k hk2 => by rw [h30]; exact gP_S (le15_of hap) hn hk2
  have eDue : dueG (gP (I 30)) (eN S) 0 = dueS (eN S) (duE (eE S)) := dueG_congr hg _ 0 (by omega)
  have eMay : ∀ z, mayG (gP (I 30)) (F 7) (eN S) z = mayS (eN S) (eK S) (duE (eE S)) z := fun z => mayG_congr hg (fun k q => (hk k q).1) z
  unfold spUndo
  cases ho : in3 t (nI 0) (nI (eE S).1) with
  | false =>
    rw [if_pos rfl]
    refine ⟨_, am_ev 3 (some .int) false [27] ok_T_undo am_mP_67 (by rw [am_m_67]) (by rw [am_m_67]) (fun h => by cases h) (Nat.le_of_ble_eq_true rfl) (fun Go hG => ?_), RC_of hx⟩
    refine hG 200 _ _ _ _ _ _ ?_
    refine And.intro (fun h1 => ?_) (fun h1 => And.intro (fun h2 => ?_) (fun h2 => ?_))
    · exact ⟨rfl, rfl, rfl, rfl⟩
    · have : in3 t (nI 0) (nI (eE S).1) = true := by
        rw [v2] at h2
        unfold in3
        rw [decide_eq_true (show nI 0 ≤ t from Int32.not_lt.mp h1), decide_eq_true h2]
        rfl
      rw [ho] at this
      cases this
    · exact ⟨rfl, rfl, rfl, rfl⟩
  | true =>
    rw [if_neg (by decide)]
    obtain ⟨a, -, ha, rfl⟩ := in3_nat (by omega) (by decide) ho
    rw [nat_nI (by omega)]
    have hsub : I 32 - nI a = nI ((eE S).1 - a) := by rw [v2, pk_sub ha]
    have htb := c_E_takeBack (cH I F S.2.2.2.2.2.2.1 S.2.2.2.2.2.2.2) 8 (I 30) (I 31) (I 32) (F 9) (F 10) (F 11) (F 12) cH_ev (eE S).1 a v2 v1 ha (fun z hz => by
      rcases (v7 z hz).2.2 with ⟨q, -⟩ | ⟨y, hy, q, -⟩
      · exact Or.inl q
      · exact Or.inr ⟨y, by omega, q⟩)
    rw [cH_evW] at htb
    have hev : evC (if (eE S).1 - a = 0 then I 30 else F 10 a) (undB (F 12) ((eE S).1 - a) (eE S).1 (I 31)) (nI a) (undT (F 11) ((eE S).1 - a) (eE S).1 (F 9)) (F 10) (F 11) (F 12) (eN S) (a, (eE S).2) := by
      refine ⟨by show a ≤ 40; omega, rfl, ?_, ?_, fun i hi => ?_, fun q hq i h1 h2 => v6 q (by have : q ≤ a := hq; omega) i h1 h2, fun q hq => v7 q (by have : q < a := hq; omega)⟩
      · by_cases h0 : (eE S).1 - a = 0
        · rw [if_pos h0]
          have : a = (eE S).1 := by omega
          rw [this]
          exact v3
        · rw [if_neg h0]
          exact (v7 a (by omega)).1
      · have h9 := undB_S hE ((eE S).1 - a) (eE S).1 (by omega) (Nat.le_refl _)
        rw [v4, h9, show (eE S).1 - ((eE S).1 - a) = a by omega]
      · have h9 := undT_S hE hn ((eE S).1 - a) (eE S).1 (F 9) (by omega) (Nat.le_refl _) v5 i hi
        rw [h9, show (eE S).1 - ((eE S).1 - a) = a by omega]
    have hx2 := RCx_ev (E2 := (a, (eE S).2)) hx hev (fun q hq => hG5 q (by have : q ≤ a := hq; omega))
    refine ⟨_, am_ev 3 (some .int) false [27] ok_T_undo am_mP_67 (by rw [am_m_67]) (by rw [am_m_67]) (fun h => by cases h) (Nat.le_of_ble_eq_true rfl) (fun Go hG => ?_), RC_of hx2⟩
    refine hG 200 _ _ _ _ _ _ ?_
    refine br_f (nI_pos (by omega)) ?_
    refine br_t (by rw [v2]; exact nI_le ha (by omega)) ?_
    show Go 27 [some (.ref 0), some (.int (nI a)), some (.int (I 32 - nI a))] [] (cH I F S.2.2.2.2.2.2.1 S.2.2.2.2.2.2.2) 0 0
    rw [hsub]
    refine hG 200 _ _ _ _ _ _ ?_
    refine Exists.intro 0 (Exists.intro _ (Exists.intro _ ⟨by decide, htb, ?_⟩))
    exact ⟨rfl, rfl, rfl, rfl⟩

theorem RCx_kp {I : Nat → Int32} {F : Nat → Nat → Int32} {S : Sta} {d b m : Int32} {tt da th bk : Nat → Int32} {E2 : Evn} {k : Nat} (hk : k < 3) (hx : RCx I F S) (h : evC d b m tt da th bk (eN S) E2) (hg : gdE (eN S) E2) : RCx (kI I k d b m) (kF F k tt da th bk) (sK S (eN S, eK S, eE S, va_up (eP S) k (some E2))) := by
  obtain ⟨⟨g1, g2, g3, g4, g5, g6⟩, hr, ht, hl⟩ := hx
  refine ⟨⟨by rw [kI_ne (by omega)]; exact g1, g2, fun i hi => by rw [kF_ne (by omega)]; exact g3 i hi, ?_, g5, fun q hq => ?_⟩, rowC_congr hr (fun j hj => kI_ne (by omega)) (fun j hj => kF_ne (by omega)), txtC_congr ht (fun j hj => kI_ne (by omega)) (fun j hj => kF_ne (by omega)), by rw [kI_ne (by omega)]; exact hl.1, by rw [kI_ne (by omega)]; exact hl.2.1, fun f hf => by rw [kF_ne (by omega)]; exact hl.2.2 f hf⟩
  · rw [kI_ne (by omega), kI_ne (by omega), kI_ne (by omega), kF_ne (by omega), kF_ne (by omega), kF_ne (by omega), kF_ne (by omega)]
    exact g4
  · show match va_up (eP S) k (some E2) q with
      | none => kI I k d b m (42 + 3 * q) = -nI 1
      | some E => evC (kI I k d b m (40 + 3 * q)) (kI I k d b m (41 + 3 * q)) (kI I k d b m (42 + 3 * q)) (kF F k tt da th bk (39 + 5 * q)) (kF F k tt da th bk (40 + 5 * q)) (kF F k tt da th bk (41 + 5 * q)) (kF F k tt da th bk (42 + 5 * q)) (eN S) E ∧ gdE (eN S) E
    by_cases hqk : q = k
    · subst hqk
      rw [va_up_self]
      have i0 : kI I q d b m (40 + 3 * q) = d := by unfold kI; rw [pk_un (by omega), pk_un (by omega), pk_us]
      have i1 : kI I q d b m (41 + 3 * q) = b := by unfold kI; rw [pk_un (by omega), pk_us]
      have i2 : kI I q d b m (42 + 3 * q) = m := by unfold kI; rw [pk_us]
      have f0 : kF F q tt da th bk (39 + 5 * q) = tt := by unfold kF; rw [va_up_ne _ _ (by omega), va_up_ne _ _ (by omega), va_up_ne _ _ (by omega), va_up_self]
      have f1 : kF F q tt da th bk (40 + 5 * q) = da := by unfold kF; rw [va_up_ne _ _ (by omega), va_up_ne _ _ (by omega), va_up_self]
      have f2 : kF F q tt da th bk (41 + 5 * q) = th := by unfold kF; rw [va_up_ne _ _ (by omega), va_up_self]
      have f3 : kF F q tt da th bk (42 + 5 * q) = bk := by unfold kF; rw [va_up_self]
      rw [i0, i1, i2, f0, f1, f2, f3]
      exact ⟨h, hg⟩
    · rw [va_up_ne _ _ hqk, kI_ne (by omega), kI_ne (by omega), kI_ne (by omega), kF_ne (by omega), kF_ne (by omega), kF_ne (by omega), kF_ne (by omega)]
      exact g6 q hq
theorem cpyA {f g : Nat → Int32} {n i : Nat} (h : i < n) : va_cpy f g 0 0 n i = f i := by
  rw [pk_cpy_in (by omega) (by omega)]
  congr 1
  omega

theorem pc_T_keep (S : Sta) (hp : List Am_C) (hRM : RC S hp) (k : Int32) : ∃ hp', Am_Ev false 6 0 0 69 [.ref 0, .int k] hp (some (.int (spKeep S k).1)) hp' ∧ RC (spKeep S k).2 hp' := by
  obtain ⟨I, F, rfl, hx⟩ := hRM
  obtain ⟨hs, hr, ht, hl⟩ := id hx
  obtain ⟨g1, g2, g3, g4, g5, g6⟩ := hs
  have hI : I 22 = nI (eN S) := g1
  have hn : eN S ≤ 6 := g2
  have hk : ∀ i, i < eN S → F 7 i = nI (eK S i) ∧ eK S i < 6 := g3
  have hE : evC (I 30) (I 31) (I 32) (F 9) (F 10) (F 11) (F 12) (eN S) (eE S) := g4
  have hG5 : gdE (eN S) (eE S) := g5
  have hap : apart (eN S) (duE (eE S)) := hG5 _ (Nat.le_refl _)
  obtain ⟨v1, v2, v3, v4, v5, v6, v7⟩ := id hE
  have h30 : I 30 = nI (pkN (duE (eE S)) (eN S)) := v3
  have hg : ∀ k, k < eN S → gP (I 30) k = gN (duE (eE S)) k := fun k hk2 => by rw [h30]; exact gP_S (le15_of hap) hn hk2
  have eDue : dueG (gP (I 30)) (eN S) 0 = dueS (eN S) (duE (eE S)) := dueG_congr hg _ 0 (by omega)
  have eMay : ∀ z, mayG (gP (I 30)) (F 7) (eN S) z = mayS (eN S) (eK S) (duE (eE S)) z := fun z => mayG_congr hg (fun k q => (hk k q).1) z
  unfold spKeep
  have hc := c_T_isPlaceKept (cH I F S.2.2.2.2.2.2.1 S.2.2.2.2.2.2.2) k
  cases ho : in3 k (nI 0) (nI 2) with
  | false =>
    rw [if_pos rfl]
    rw [ho] at hc
    refine ⟨_, am_ev 2 (some .int) false [] ok_T_keep am_mP_69 (by rw [am_m_69]) (by rw [am_m_69]) (fun h => by cases h) (Nat.le_of_ble_eq_true rfl) (fun Go hG => ?_), RC_of hx⟩
    refine hG 200 _ _ _ _ _ _ ?_
    refine Exists.intro 0 (Exists.intro _ (Exists.intro _ ⟨by decide, hc, ?_⟩))
    refine bn_f rfl ?_
    exact ⟨rfl, rfl, rfl, rfl⟩
  | true =>
    rw [if_neg (by decide)]
    rw [ho] at hc
    obtain ⟨a, -, ha, rfl⟩ := in3_nat (by decide) (by decide) ho
    rw [nat_nI (by omega)]
    by_cases h0 : eN S = 0
    · rw [if_pos h0]
      refine ⟨_, am_ev 2 (some .int) false [] ok_T_keep am_mP_69 (by rw [am_m_69]) (by rw [am_m_69]) (fun h => by cases h) (Nat.le_of_ble_eq_true rfl) (fun Go hG => ?_), RC_of hx⟩
      refine hG 200 _ _ _ _ _ _ ?_
      refine Exists.intro 0 (Exists.intro _ (Exists.intro _ ⟨by decide, hc, ?_⟩))
      refine bn_t (by decide) ?_
      refine bn_f (by rw [hI, h0]; rfl) ?_
      exact ⟨rfl, rfl, rfl, rfl⟩
    · rw [if_neg h0]
      have hz : ¬ I 22 = 0 := by rw [hI]; exact nI_ne0 (by omega) (by omega)
      have htf := c_E_takeFrom (cH I F S.2.2.2.2.2.2.1 S.2.2.2.2.2.2.2) (38 + 5 * a) 8 _ _ _ _ _ _ _ _ _ _ _ _ _ _ (by omega) (cH_kp (by omega)) cH_ev
      rw [cH_kpW (by omega)] at htf
      have hx2 := RCx_kp (k := a) (by omega) hx (evC_congr (tt' := va_cpy (F 9) (F (39 + 5 * a)) 0 0 6) (da' := va_cpy (F 10) (F (40 + 5 * a)) 0 0 40) (th' := va_cpy (F 11) (F (41 + 5 * a)) 0 0 40) (bk' := va_cpy (F 12) (F (42 + 5 * a)) 0 0 40) hE (fun i hi => cpyA hi) (fun q hq => ⟨cpyA hq, cpyA hq, cpyA hq⟩)) hG5
      refine ⟨_, am_ev 2 (some .int) false [] ok_T_keep am_mP_69 (by rw [am_m_69]) (by rw [am_m_69]) (fun h => by cases h) (Nat.le_of_ble_eq_true rfl) (fun Go hG => ?_), RC_of hx2⟩
      refine hG 200 _ _ _ _ _ _ ?_
      refine Exists.intro 0 (Exists.intro _ (Exists.intro _ ⟨by decide, hc, ?_⟩))
      refine bn_t (by decide) ?_
      refine bn_t hz ?_
      refine Exists.intro a (Exists.intro (38 + 5 * a) ⟨by omega, rfl, rfE_at (by omega), ?_⟩)
      refine am_vt (cH_kp (by omega)).1 rfl ?_
      refine Exists.intro 1 (Exists.intro _ (Exists.intro _ ⟨by decide, htf, ?_⟩))
      refine ⟨?_, rfl, rfl, rfl⟩
      show some (Value.int (kI I a (I 30) (I 31) (I 32) 32)) = _
      rw [kI_ne (by omega), v2]

theorem pc_T_on (S : Sta) (hp : List Am_C) (hRM : RC S hp) (k : Int32) : ∃ hp', Am_Ev false 6 0 0 72 [.ref 0, .int k] hp (some (.int (spOn S k).1)) hp' ∧ RC (spOn S k).2 hp' := by
  obtain ⟨I, F, rfl, hx⟩ := hRM
  obtain ⟨hs, hr, ht, hl⟩ := id hx
  obtain ⟨g1, g2, g3, g4, g5, g6⟩ := hs
  have hI : I 22 = nI (eN S) := g1
  have hn : eN S ≤ 6 := g2
  have hk : ∀ i, i < eN S → F 7 i = nI (eK S i) ∧ eK S i < 6 := g3
  have hE : evC (I 30) (I 31) (I 32) (F 9) (F 10) (F 11) (F 12) (eN S) (eE S) := g4
  have hG5 : gdE (eN S) (eE S) := g5
  have hap : apart (eN S) (duE (eE S)) := hG5 _ (Nat.le_refl _)
  obtain ⟨v1, v2, v3, v4, v5, v6, v7⟩ := id hE
  have h30 : I 30 = nI (pkN (duE (eE S)) (eN S)) := v3
  have hg : ∀ k, k < eN S → gP (I 30) k = gN (duE (eE S)) k := fun k hk2 => by rw [h30]; exact gP_S (le15_of hap) hn hk2
  have eDue : dueG (gP (I 30)) (eN S) 0 = dueS (eN S) (duE (eE S)) := dueG_congr hg _ 0 (by omega)
  have eMay : ∀ z, mayG (gP (I 30)) (F 7) (eN S) z = mayS (eN S) (eK S) (duE (eE S)) z := fun z => mayG_congr hg (fun k q => (hk k q).1) z
  unfold spOn
  have hc := c_T_isPlaceKept (cH I F S.2.2.2.2.2.2.1 S.2.2.2.2.2.2.2) k
  cases ho : in3 k (nI 0) (nI 2) with
  | false =>
    rw [if_pos rfl]
    rw [ho] at hc
    refine ⟨_, am_ev 2 (some .int) false [] ok_T_on am_mP_72 (by rw [am_m_72]) (by rw [am_m_72]) (fun h => by cases h) (Nat.le_of_ble_eq_true rfl) (fun Go hG => ?_), RC_of hx⟩
    refine hG 200 _ _ _ _ _ _ ?_
    refine Exists.intro 0 (Exists.intro _ (Exists.intro _ ⟨by decide, hc, ?_⟩))
    refine bn_f rfl ?_
    exact ⟨rfl, rfl, rfl, rfl⟩
  | true =>
    rw [if_neg (by decide)]
    rw [ho] at hc
    obtain ⟨a, -, ha, rfl⟩ := in3_nat (by decide) (by decide) ho
    rw [nat_nI (by omega)]
    have hfg := c_E_isForgotten (cH I F S.2.2.2.2.2.2.1 S.2.2.2.2.2.2.2) (38 + 5 * a) _ _ _ _ _ _ _ (cH_kp (by omega))
    have g8 : match eP S a with
      | none => I (42 + 3 * a) = -nI 1
      | some E => evC (I (40 + 3 * a)) (I (41 + 3 * a)) (I (42 + 3 * a)) (F (39 + 5 * a)) (F (40 + 5 * a)) (F (41 + 5 * a)) (F (42 + 5 * a)) (eN S) E ∧ gdE (eN S) E := g6 a (by omega)
    cases he : eP S a with
    | none =>
      rw [he] at g8
      rw [decide_eq_true (show I (42 + 3 * a) < 0 by rw [g8]; decide)] at hfg
      refine ⟨_, am_ev 2 (some .int) false [] ok_T_on am_mP_72 (by rw [am_m_72]) (by rw [am_m_72]) (fun h => by cases h) (Nat.le_of_ble_eq_true rfl) (fun Go hG => ?_), RC_fnd hx (by decide)⟩
      refine hG 200 _ _ _ _ _ _ ?_
      refine Exists.intro 0 (Exists.intro _ (Exists.intro _ ⟨by decide, hc, ?_⟩))
      refine bn_t (by decide) ?_
      refine Exists.intro a (Exists.intro (38 + 5 * a) ⟨by omega, rfl, rfE_at (by omega), ?_⟩)
      refine am_vt (cH_kp (by omega)).1 rfl ?_
      refine Exists.intro 0 (Exists.intro _ (Exists.intro _ ⟨by decide, hfg, ?_⟩))
      refine br_f (by decide) ?_
      refine Exists.intro 0 (Exists.intro _ (Exists.intro _ ⟨by decide, c_T_found I F S.2.2.2.2.2.2.1 S.2.2.2.2.2.2.2 1 (by decide), ?_⟩))
      exact ⟨rfl, rfl, rfl, rfl⟩
    | some E2 =>
      rw [he] at g8
      obtain ⟨a2, a3⟩ := g8
      have a4 := a2.1
      have a5 := a2.2.1
      rw [decide_eq_false (show ¬ I (42 + 3 * a) < 0 by rw [a5]; exact nI_pos (by omega))] at hfg
      have htf := c_E_takeFrom (cH I F S.2.2.2.2.2.2.1 S.2.2.2.2.2.2.2) 8 (38 + 5 * a) _ _ _ _ _ _ _ _ _ _ _ _ _ _ (by omega) cH_ev (cH_kp (by omega))
      rw [cH_evW] at htf
      have hx2 := RCx_ev (E2 := E2) hx (evC_congr (tt' := va_cpy (F (39 + 5 * a)) (F 9) 0 0 6) (da' := va_cpy (F (40 + 5 * a)) (F 10) 0 0 40) (th' := va_cpy (F (41 + 5 * a)) (F 11) 0 0 40) (bk' := va_cpy (F (42 + 5 * a)) (F 12) 0 0 40) a2 (fun i hi => cpyA hi) (fun q hq => ⟨cpyA hq, cpyA hq, cpyA hq⟩)) a3
      refine ⟨_, am_ev 2 (some .int) false [] ok_T_on am_mP_72 (by rw [am_m_72]) (by rw [am_m_72]) (fun h => by cases h) (Nat.le_of_ble_eq_true rfl) (fun Go hG => ?_), RC_of hx2⟩
      refine hG 200 _ _ _ _ _ _ ?_
      refine Exists.intro 0 (Exists.intro _ (Exists.intro _ ⟨by decide, hc, ?_⟩))
      refine bn_t (by decide) ?_
      refine Exists.intro a (Exists.intro (38 + 5 * a) ⟨by omega, rfl, rfE_at (by omega), ?_⟩)
      refine am_vt (cH_kp (by omega)).1 rfl ?_
      refine Exists.intro 0 (Exists.intro _ (Exists.intro _ ⟨by decide, hfg, ?_⟩))
      refine br_t rfl ?_
      refine Exists.intro a (Exists.intro (38 + 5 * a) ⟨by omega, rfl, rfE_at (by omega), ?_⟩)
      refine Exists.intro 1 (Exists.intro _ (Exists.intro _ ⟨by decide, htf, ?_⟩))
      exact ⟨by show some (Value.int (I (42 + 3 * a))) = _; rw [a5], rfl, rfl, rfl⟩

theorem pc_T_lands (S : Sta) (hp : List Am_C) (hRM : RC S hp) (i h : Int32) : ∃ hp', Am_Ev false 6 0 0 73 [.ref 0, .int i, .int h] hp (some (.int (spLands S i h).1)) hp' ∧ RC (spLands S i h).2 hp' := by
  obtain ⟨I, F, rfl, hx⟩ := hRM
  obtain ⟨hs, hr, ht, hl⟩ := id hx
  obtain ⟨g1, g2, g3, g4, g5, g6⟩ := hs
  have hI : I 22 = nI (eN S) := g1
  have hn : eN S ≤ 6 := g2
  have hk : ∀ i, i < eN S → F 7 i = nI (eK S i) ∧ eK S i < 6 := g3
  have hE : evC (I 30) (I 31) (I 32) (F 9) (F 10) (F 11) (F 12) (eN S) (eE S) := g4
  have hG5 : gdE (eN S) (eE S) := g5
  have hap : apart (eN S) (duE (eE S)) := hG5 _ (Nat.le_refl _)
  obtain ⟨v1, v2, v3, v4, v5, v6, v7⟩ := id hE
  have h30 : I 30 = nI (pkN (duE (eE S)) (eN S)) := v3
  have hg : ∀ k, k < eN S → gP (I 30) k = gN (duE (eE S)) k := fun k hk2 => by rw [h30]; exact gP_S (le15_of hap) hn hk2
  have eDue : dueG (gP (I 30)) (eN S) 0 = dueS (eN S) (duE (eE S)) := dueG_congr hg _ 0 (by omega)
  have eMay : ∀ z, mayG (gP (I 30)) (F 7) (eN S) z = mayS (eN S) (eK S) (duE (eE S)) z := fun z => mayG_congr hg (fun k q => (hk k q).1) z
  unfold spLands
  have hc1 := c_T_isThing I F S.2.2.2.2.2.2.1 S.2.2.2.2.2.2.2 (eN S) hI hn i
  cases ho : okI S i with
  | false =>
    rw [if_pos rfl]
    rw [show in3 i (nI 0) (nI (eN S) - nI 1) = false from ho] at hc1
    refine ⟨_, am_ev 3 (some .int) false [] ok_T_lands am_mP_73 (by rw [am_m_73]) (by rw [am_m_73]) (fun h => by cases h) (Nat.le_of_ble_eq_true rfl) (fun Go hG => ?_), RC_of hx⟩
    refine hG 200 _ _ _ _ _ _ ?_
    refine Exists.intro 0 (Exists.intro _ (Exists.intro _ ⟨by decide, hc1, ?_⟩))
    refine br_t rfl ?_
    exact ⟨rfl, rfl, rfl, rfl⟩
  | true =>
    rw [if_neg (by decide)]
    rw [show in3 i (nI 0) (nI (eN S) - nI 1) = true from ho] at hc1
    obtain ⟨q, hq, rfl⟩ := in3_nat2 (k := eN S) (by omega) rfl ho
    rw [nat_nI (by omega)]
    have hc2 := c_T_isHeight (cH I F S.2.2.2.2.2.2.1 S.2.2.2.2.2.2.2) h
    cases ho2 : okH h with
    | false =>
      rw [if_pos rfl]
      rw [show in3 h (nI 1) (nI 7) = false from ho2] at hc2
      refine ⟨_, am_ev 3 (some .int) false [] ok_T_lands am_mP_73 (by rw [am_m_73]) (by rw [am_m_73]) (fun h => by cases h) (Nat.le_of_ble_eq_true rfl) (fun Go hG => ?_), RC_of hx⟩
      refine hG 200 _ _ _ _ _ _ ?_
      refine Exists.intro 0 (Exists.intro _ (Exists.intro _ ⟨by decide, hc1, ?_⟩))
      refine br_f (by decide) ?_
      refine Exists.intro 0 (Exists.intro _ (Exists.intro _ ⟨by decide, hc2, ?_⟩))
      refine bn_f rfl ?_
      exact ⟨rfl, rfl, rfl, rfl⟩
    | true =>
      rw [if_neg (by decide)]
      rw [show in3 h (nI 1) (nI 7) = true from ho2] at hc2
      obtain ⟨z, hz1, hz2, rfl⟩ := in3_nat (by decide) (by decide) ho2
      have hc3 := c_K_flight (cH I F S.2.2.2.2.2.2.1 S.2.2.2.2.2.2.2) (eK S q) z (hk q hq).2 ⟨hz1, hz2⟩
      rw [← (hk q hq).1] at hc3
      refine ⟨_, am_ev 3 (some .int) false [] ok_T_lands am_mP_73 (by rw [am_m_73]) (by rw [am_m_73]) (fun h => by cases h) (Nat.le_of_ble_eq_true rfl) (fun Go hG => ?_), RC_of hx⟩
      refine hG 200 _ _ _ _ _ _ ?_
      refine Exists.intro 0 (Exists.intro _ (Exists.intro _ ⟨by decide, hc1, ?_⟩))
      refine br_f (by decide) ?_
      refine Exists.intro 0 (Exists.intro _ (Exists.intro _ ⟨by decide, hc2, ?_⟩))
      refine bn_t (by decide) ?_
      refine Exists.intro q ⟨by omega, rfl, ?_⟩
      refine Exists.intro 1 (Exists.intro _ (Exists.intro _ ⟨by decide, hc3, ?_⟩))
      exact ⟨by rw [(hk q hq).1], rfl, rfl, rfl⟩

theorem pc_T_may (S : Sta) (hp : List Am_C) (hRM : RC S hp)  : ∃ hp', Am_Ev false 6 0 0 74 [.ref 0] hp (some (.int (spMay S).1)) hp' ∧ RC (spMay S).2 hp' := by
  obtain ⟨I, F, rfl, hx⟩ := hRM
  obtain ⟨hs, hr, ht, hl⟩ := id hx
  obtain ⟨g1, g2, g3, g4, g5, g6⟩ := hs
  have hI : I 22 = nI (eN S) := g1
  have hn : eN S ≤ 6 := g2
  have hk : ∀ i, i < eN S → F 7 i = nI (eK S i) ∧ eK S i < 6 := g3
  have hE : evC (I 30) (I 31) (I 32) (F 9) (F 10) (F 11) (F 12) (eN S) (eE S) := g4
  have hG5 : gdE (eN S) (eE S) := g5
  have hap : apart (eN S) (duE (eE S)) := hG5 _ (Nat.le_refl _)
  obtain ⟨v1, v2, v3, v4, v5, v6, v7⟩ := id hE
  have h30 : I 30 = nI (pkN (duE (eE S)) (eN S)) := v3
  have hg : ∀ k, k < eN S → gP (I 30) k = gN (duE (eE S)) k := fun k hk2 => by rw [h30]; exact gP_S (le15_of hap) hn hk2
  have eDue : dueG (gP (I 30)) (eN S) 0 = dueS (eN S) (duE (eE S)) := dueG_congr hg _ 0 (by omega)
  have eMay : ∀ z, mayG (gP (I 30)) (F 7) (eN S) z = mayS (eN S) (eK S) (duE (eE S)) z := fun z => mayG_congr hg (fun k q => (hk k q).1) z
  unfold spMay
  by_cases h0 : eN S = 0
  · rw [if_pos h0]
    refine ⟨_, am_ev 2 (some .int) false [] ok_T_may am_mP_74 (by rw [am_m_74]) (by rw [am_m_74]) (fun h => by cases h) (Nat.le_of_ble_eq_true rfl) (fun Go hG => ?_), RC_of hx⟩
    refine hG 200 _ _ _ _ _ _ ?_
    refine bn_f (by rw [hI, h0]; rfl) ?_
    exact ⟨rfl, rfl, rfl, rfl⟩
  · rw [if_neg h0]
    have hz : ¬ I 22 = 0 := by rw [hI]; exact nI_ne0 (by omega) (by omega)
    have hdc := c_P_dueNow (cH I F S.2.2.2.2.2.2.1 S.2.2.2.2.2.2.2) 6 7 (eN S) (by show some _ = some _; rw [hI]) hn (I 30)
    rw [eDue] at hdc
    by_cases hd : dueS (eN S) (duE (eE S)) < eN S
    · rw [if_pos hd]
      rw [dueR_yes hd] at hdc
      have hh := c_P_heightsNow (cH (upd I 10 (nI (dueS (eN S) (duE (eE S))))) F S.2.2.2.2.2.2.1 S.2.2.2.2.2.2.2) 6 7 (eN S) (by show some _ = some _; rw [show upd I 10 (nI (dueS (eN S) (duE (eE S)))) 22 = I 22 from rfl, hI]) hn (eK S) (F 7) rfl hk (I 30)
      rw [hgtG_congr eMay 7] at hh
      refine ⟨_, am_ev 2 (some .int) false [] ok_T_may am_mP_74 (by rw [am_m_74]) (by rw [am_m_74]) (fun h => by cases h) (Nat.le_of_ble_eq_true rfl) (fun Go hG => ?_), RC_tell hx _⟩
      refine hG 200 _ _ _ _ _ _ ?_
      refine bn_t hz ?_
      refine Exists.intro 1 (Exists.intro _ (Exists.intro _ ⟨by decide, hdc, ?_⟩))
      refine bn_t (nI_m9 (by omega)) ?_
      refine Exists.intro 0 (Exists.intro _ (Exists.intro _ ⟨by decide, c_T_tell I F S.2.2.2.2.2.2.1 S.2.2.2.2.2.2.2 _, ?_⟩))
      refine Exists.intro 2 (Exists.intro _ (Exists.intro _ ⟨by decide, hh, ?_⟩))
      exact ⟨rfl, rfl, rfl, rfl⟩
    · rw [if_neg hd]
      rw [dueR_no hd] at hdc
      refine ⟨_, am_ev 2 (some .int) false [] ok_T_may am_mP_74 (by rw [am_m_74]) (by rw [am_m_74]) (fun h => by cases h) (Nat.le_of_ble_eq_true rfl) (fun Go hG => ?_), RC_of hx⟩
      refine hG 200 _ _ _ _ _ _ ?_
      refine bn_t hz ?_
      refine Exists.intro 1 (Exists.intro _ (Exists.intro _ ⟨by decide, hdc, ?_⟩))
      refine bn_f rfl ?_
      exact ⟨rfl, rfl, rfl, rfl⟩
end
section
/-! ===== thing, mark, count: what they tell; the reference ===== -/
theorem add0 (x : Int32) : x + nI 0 = x := by
  rw [show nI 0 = 0 from rfl]
  simp
def cntG (p : Nat → Bool) (n : Nat) : Int32 := fdI (fun k a => a + (if p k then nI 1 else nI 0)) n (nI 0)
theorem cntG_t {p : Nat → Bool} {k : Nat} (h : p k = true) : cntG p (k + 1) = cntG p k + nI 1 := by
  show _ + (if _ then _ else _) = _
  rw [if_pos h]
  rfl
theorem cntG_f {p : Nat → Bool} {k : Nat} (h : p k = false) : cntG p (k + 1) = cntG p k + nI 0 := by
  show _ + (if _ then _ else _) = _
  rw [if_neg (by rw [h]; decide)]
  rfl
theorem cntG_congr {p q : Nat → Bool} {n : Nat} (e : ∀ k, k < n → p k = q k) : cntG p n = cntG q n := fdI_congr n _ (fun k hk b => by rw [e k hk])
def ulB (k : Int32) (w : Bool) (i : Nat) : Bool := decide (¬ landI k (nI (i + 1)) = -nI 9) && (bif w then decide (nI (i + 1) < landI k (nI (i + 1))) else decide (landI k (nI (i + 1)) < nI (i + 1)))

theorem c_M_unlikeBall_true (hp : List Am_C) (k : Int32) : Am_Ev false 1 0 0 158 [.int k, .int (nI 1)] (hp) (some (.int (cntG (ulB k true) 7))) (hp) := by
  refine am_ev 5 (some .int) false [4] ok_M_unlikeBall am_mP_158 (by rw [am_m_158]) (by rw [am_m_158]) (fun h => by cases h) (Nat.le_of_ble_eq_true rfl) ?_
  intro Go hG
  have L : ∀ (j q : Nat) (z : Option Value), q + j = 7 → Go 4 [some (.int k), some (.int (nI 1)), some (.int (cntG (ulB k true) q)), some (.int (nI (q + 1))), z] [] hp 0 0 := by
    intro j
    induction j with
    | zero =>
      intro q z hq
      refine hG 200 _ _ _ _ _ _ ?_
      refine br_t (nI_lt (by omega) (by omega)) ?_
      exact ⟨by rw [show q = 7 by omega], rfl, rfl, rfl⟩
    | succ j ih =>
      intro q z hq
      refine hG 200 _ _ _ _ _ _ ?_
      refine br_f (nI_nlt (by omega) (by omega)) ?_
      refine Exists.intro 0 (Exists.intro _ (Exists.intro _ ⟨by decide, c_M_landing _ _ _, ?_⟩))
      have h := ih (q + 1) (some (.int (landI k (nI (q + 1))))) (by omega)
      rw [← nI_s1 (q + 1)] at h
      refine And.intro (fun h1 => ?_) (fun h1 => ?_)
      · rw [cntG_f (by unfold ulB; rw [decide_eq_false (fun z => z h1)]; rfl)] at h
        exact h
      · refine br_f (by decide) ?_
        refine And.intro (fun h2 => ?_) (fun h2 => ?_)
        · rw [cntG_f (by unfold ulB; rw [decide_eq_true h1, Bool.true_and]; exact decide_eq_false (Int32.not_lt.mpr h2))] at h
          exact h
        · rw [cntG_t (by unfold ulB; rw [decide_eq_true h1, Bool.true_and]; exact decide_eq_true (Int32.not_le.mp h2))] at h
          exact h
  refine hG 200 _ _ _ _ _ _ ?_
  exact L 7 0 none (by omega)

theorem c_M_unlikeBall_false (hp : List Am_C) (k : Int32) : Am_Ev false 1 0 0 158 [.int k, .int (-nI 1)] (hp) (some (.int (cntG (ulB k false) 7))) (hp) := by
  refine am_ev 5 (some .int) false [4] ok_M_unlikeBall am_mP_158 (by rw [am_m_158]) (by rw [am_m_158]) (fun h => by cases h) (Nat.le_of_ble_eq_true rfl) ?_
  intro Go hG
  have L : ∀ (j q : Nat) (z : Option Value), q + j = 7 → Go 4 [some (.int k), some (.int (-nI 1)), some (.int (cntG (ulB k false) q)), some (.int (nI (q + 1))), z] [] hp 0 0 := by
    intro j
    induction j with
    | zero =>
      intro q z hq
      refine hG 200 _ _ _ _ _ _ ?_
      refine br_t (nI_lt (by omega) (by omega)) ?_
      exact ⟨by rw [show q = 7 by omega], rfl, rfl, rfl⟩
    | succ j ih =>
      intro q z hq
      refine hG 200 _ _ _ _ _ _ ?_
      refine br_f (nI_nlt (by omega) (by omega)) ?_
      refine Exists.intro 0 (Exists.intro _ (Exists.intro _ ⟨by decide, c_M_landing _ _ _, ?_⟩))
      have h := ih (q + 1) (some (.int (landI k (nI (q + 1))))) (by omega)
      rw [← nI_s1 (q + 1)] at h
      refine And.intro (fun h1 => ?_) (fun h1 => ?_)
      · rw [cntG_f (by unfold ulB; rw [decide_eq_false (fun z => z h1)]; rfl)] at h
        exact h
      · refine br_t (by decide) ?_
        refine And.intro (fun h2 => ?_) (fun h2 => ?_)
        · rw [cntG_f (by unfold ulB; rw [decide_eq_true h1, Bool.true_and]; exact decide_eq_false (Int32.not_lt.mpr h2))] at h
          exact h
        · rw [cntG_t (by unfold ulB; rw [decide_eq_true h1, Bool.true_and]; exact decide_eq_true (Int32.not_le.mp h2))] at h
          exact h
  refine hG 200 _ _ _ _ _ _ ?_
  exact L 7 0 none (by omega)

def trB (kf g : Nat → Int32) (i k : Nat) : Bool := decide (kf k = nI 4) && decide (g k < g i)
def bhB (g : Nat → Int32) (i k : Nat) : Bool := decide (g i < g k)

theorem c_M_torchesAhead (I : Nat → Int32) (F : Nat → Nat → Int32) (u v : Int64) (n i : Nat) (hI : I 2 = nI n) (hn : n ≤ 6) (hi : i < n) : Am_Ev false 0 0 0 159 [.ref 0, .int (nI i)] (mH I F u v) (some (.int (cntG (trB (F 2) (F 1) i) n))) (mH I F u v) := by
  refine am_ev 4 (some .int) false [4] ok_M_torchesAhead am_mP_159 (by rw [am_m_159]) (by rw [am_m_159]) (fun h => by cases h) (Nat.le_of_ble_eq_true rfl) ?_
  intro Go hG
  have L : ∀ (j k : Nat), k + j = n → Go 4 [some (.ref 0), some (.int (nI i)), some (.int (cntG (trB (F 2) (F 1) i) k)), some (.int (nI k))] [] (mH I F u v) 0 0 := by
    intro j
    induction j with
    | zero =>
      intro k hk
      refine hG 200 _ _ _ _ _ _ ?_
      refine br_t (by rw [hI]; exact nI_le (by omega) (by omega)) ?_
      exact ⟨by rw [show k = n by omega], rfl, rfl, rfl⟩
    | succ j ih =>
      intro k hk
      have h := ih (k + 1) (by omega)
      rw [← nI_s1 k] at h
      refine hG 200 _ _ _ _ _ _ ?_
      refine br_f (by rw [hI]; exact nI_ge (by omega) (by omega)) ?_
      refine Exists.intro k ⟨by omega, rfl, ?_⟩
      refine And.intro (fun h1 => ?_) (fun h1 => ?_)
      · rw [cntG_f (by unfold trB; rw [decide_eq_false h1]; rfl)] at h
        exact h
      · refine Exists.intro k ⟨by omega, rfl, ?_⟩
        refine Exists.intro i ⟨by omega, rfl, ?_⟩
        refine And.intro (fun h2 => ?_) (fun h2 => ?_)
        · rw [cntG_f (by unfold trB; rw [decide_eq_true h1, Bool.true_and]; exact decide_eq_false (Int32.not_lt.mpr h2))] at h
          exact h
        · rw [cntG_t (by unfold trB; rw [decide_eq_true h1, Bool.true_and]; exact decide_eq_true (Int32.not_le.mp h2))] at h
          exact h
  refine hG 200 _ _ _ _ _ _ ?_
  exact L n 0 (by omega)

theorem c_M_thingsBehind (I : Nat → Int32) (F : Nat → Nat → Int32) (u v : Int64) (n i : Nat) (hI : I 2 = nI n) (hn : n ≤ 6) (hi : i < n) : Am_Ev false 0 0 0 160 [.ref 0, .int (nI i)] (mH I F u v) (some (.int (cntG (bhB (F 1) i) n))) (mH I F u v) := by
  refine am_ev 4 (some .int) false [4] ok_M_thingsBehind am_mP_160 (by rw [am_m_160]) (by rw [am_m_160]) (fun h => by cases h) (Nat.le_of_ble_eq_true rfl) ?_
  intro Go hG
  have L : ∀ (j k : Nat), k + j = n → Go 4 [some (.ref 0), some (.int (nI i)), some (.int (cntG (bhB (F 1) i) k)), some (.int (nI k))] [] (mH I F u v) 0 0 := by
    intro j
    induction j with
    | zero =>
      intro k hk
      refine hG 200 _ _ _ _ _ _ ?_
      refine br_t (by rw [hI]; exact nI_le (by omega) (by omega)) ?_
      exact ⟨by rw [show k = n by omega], rfl, rfl, rfl⟩
    | succ j ih =>
      intro k hk
      have h := ih (k + 1) (by omega)
      rw [← nI_s1 k] at h
      refine hG 200 _ _ _ _ _ _ ?_
      refine br_f (by rw [hI]; exact nI_ge (by omega) (by omega)) ?_
      refine Exists.intro k ⟨by omega, rfl, ?_⟩
      refine Exists.intro i ⟨by omega, rfl, ?_⟩
      refine And.intro (fun h2 => ?_) (fun h2 => ?_)
      · rw [cntG_f (decide_eq_false (Int32.not_lt.mpr h2))] at h
        exact h
      · rw [cntG_t (decide_eq_true (Int32.not_le.mp h2))] at h
        exact h
  refine hG 200 _ _ _ _ _ _ ?_
  exact L n 0 (by omega)

theorem c_M_throwsMade (I : Nat → Int32) (F : Nat → Nat → Int32) (u v : Int64) (n : Nat) (hI : I 2 = nI n) (hn : n ≤ 6) : Am_Ev false 0 0 0 217 [.ref 0] (mH I F u v) (some (.int (sumG (fun k => F 1 (6 + k)) n))) (mH I F u v) := by
  refine am_ev 3 (some .int) false [4] ok_M_throwsMade am_mP_217 (by rw [am_m_217]) (by rw [am_m_217]) (fun h => by cases h) (Nat.le_of_ble_eq_true rfl) ?_
  intro Go hG
  have L : ∀ (j k : Nat), k + j = n → Go 4 [some (.ref 0), some (.int (sumG (fun k => F 1 (6 + k)) k)), some (.int (nI k))] [] (mH I F u v) 0 0 := by
    intro j
    induction j with
    | zero =>
      intro k hk
      refine hG 200 _ _ _ _ _ _ ?_
      refine br_t (by rw [hI]; exact nI_le (by omega) (by omega)) ?_
      exact ⟨by rw [show k = n by omega], rfl, rfl, rfl⟩
    | succ j ih =>
      intro k hk
      have h := ih (k + 1) (by omega)
      rw [← nI_s1 k] at h
      refine hG 200 _ _ _ _ _ _ ?_
      refine br_f (by rw [hI]; exact nI_ge (by omega) (by omega)) ?_
      refine Exists.intro (6 + k) ⟨by omega, nI_add 6 k, ?_⟩
      exact h
  refine hG 200 _ _ _ _ _ _ ?_
  exact L n 0 (by omega)

def okB (kf : Nat → Int32) (a b : Int32) (k : Nat) : Bool := decide (kf k = a) || decide (kf k = b)

theorem c_M_ofKinds (I : Nat → Int32) (F : Nat → Nat → Int32) (u v : Int64) (n : Nat) (hI : I 2 = nI n) (hn : n ≤ 6) (a b : Int32) : Am_Ev false 0 0 0 218 [.ref 0, .int a, .int b] (mH I F u v) (some (.int (cntG (okB (F 2) a b) n))) (mH I F u v) := by
  refine am_ev 5 (some .int) false [5] ok_M_ofKinds am_mP_218 (by rw [am_m_218]) (by rw [am_m_218]) (fun h => by cases h) (Nat.le_of_ble_eq_true rfl) ?_
  intro Go hG
  have L : ∀ (j k : Nat), k + j = n → Go 5 [some (.ref 0), some (.int a), some (.int b), some (.int (cntG (okB (F 2) a b) k)), some (.int (nI k))] [] (mH I F u v) 0 0 := by
    intro j
    induction j with
    | zero =>
      intro k hk
      refine hG 200 _ _ _ _ _ _ ?_
      refine br_t (by rw [hI]; exact nI_le (by omega) (by omega)) ?_
      exact ⟨by rw [show k = n by omega], rfl, rfl, rfl⟩
    | succ j ih =>
      intro k hk
      have h := ih (k + 1) (by omega)
      rw [← nI_s1 k] at h
      refine hG 200 _ _ _ _ _ _ ?_
      refine br_f (by rw [hI]; exact nI_ge (by omega) (by omega)) ?_
      refine Exists.intro k ⟨by omega, rfl, ?_⟩
      refine And.intro (fun h1 => ?_) (fun h1 => ?_)
      · rw [cntG_t (by unfold okB; rw [decide_eq_true h1]; rfl)] at h
        exact h
      · refine Exists.intro k ⟨by omega, rfl, ?_⟩
        refine And.intro (fun h2 => ?_) (fun h2 => ?_)
        · rw [cntG_f (by unfold okB; rw [decide_eq_false h1, decide_eq_false h2]; rfl)] at h
          exact h
        · rw [cntG_t (by unfold okB; rw [decide_eq_true h2, Bool.or_true])] at h
          exact h
  refine hG 200 _ _ _ _ _ _ ?_
  exact L n 0 (by omega)

def thrB (f : Nat → Int32) (k : Nat) : Bool := decide (¬ f k < 0)
theorem c_M_thereAre (I : Nat → Int32) (F : Nat → Nat → Int32) (u v : Int64) (h n : Nat) (hh : h = 5 ∧ n = 6 ∨ h = 7 ∧ n = 4 ∨ h = 3 ∧ n = 3) : Am_Ev false 0 0 0 219 [.ref h, .int (nI n)] (mH I F u v) (some (.int (cntG (thrB (F h)) n))) (mH I F u v) := by
  refine am_ev 4 (some .int) false [4] ok_M_thereAre am_mP_219 (by rw [am_m_219]) (by rw [am_m_219]) (fun h => by cases h) (Nat.le_of_ble_eq_true rfl) ?_
  intro Go hG
  have L : ∀ (j k : Nat), k + j = n → Go 4 [some (.ref h), some (.int (nI n)), some (.int (cntG (thrB (F h)) k)), some (.int (nI k))] [] (mH I F u v) 0 0 := by
    intro j
    induction j with
    | zero =>
      intro k hk
      refine hG 200 _ _ _ _ _ _ ?_
      refine br_t (nI_le (by omega) (by omega)) ?_
      exact ⟨by rw [show k = n by omega], rfl, rfl, rfl⟩
    | succ j ih =>
      intro k hk
      have h9 := ih (k + 1) (by omega)
      rw [← nI_s1 k] at h9
      refine hG 200 _ _ _ _ _ _ ?_
      refine br_f (nI_ge (by omega) (by omega)) ?_
      have e : (mH I F u v)[h]? = some (.inl (0, n, .inl (F h))) := by
        rcases hh with ⟨rfl, rfl⟩ | ⟨rfl, rfl⟩ | ⟨rfl, rfl⟩ <;> rfl
      refine am_ai_of e (by rcases hh with ⟨rfl, rfl⟩ | ⟨rfl, rfl⟩ | ⟨rfl, rfl⟩ <;> rfl) ?_
      refine Exists.intro k ⟨by omega, rfl, ?_⟩
      refine And.intro (fun h1 => ?_) (fun h1 => ?_)
      · rw [cntG_t (decide_eq_true (Int32.not_lt.mpr h1))] at h9
        exact h9
      · rw [cntG_f (decide_eq_false (fun q => q (Int32.not_le.mp h1)))] at h9
        exact h9
  refine hG 200 _ _ _ _ _ _ ?_
  exact L n 0 (by omega)

def thV (S : Sta) (i w : Nat) : Int32 := match w with
  | 0 => nI (eK S i)
  | 1 => nI (duE (eE S) i)
  | 2 => hgtG (canI (nI (eK S i))) 7
  | _ => nI (thE (eE S) i)
def spThing (S : Sta) (i w : Int32) : Int32 × Sta := if okI S i = false then (-nI 1, S) else if in3 w (nI 0) (nI 3) = false then (-nI 1, S) else (nI 1, tellS S (thV S (nat i) (nat w)))
def mkV (S : Sta) (i w : Nat) : Int32 := match w with
  | 1 => cntG (ulB (nI (eK S i)) true) 7
  | 2 => nI (duE (eE S) i) / nI 2
  | 3 => cntG (ulB (nI (eK S i)) false) 7
  | 4 => cntG (trB (gN (eK S)) (gN (duE (eE S))) i) (eN S)
  | _ => cntG (bhB (gN (duE (eE S))) i) (eN S)
def spMark (S : Sta) (i w : Int32) : Int32 × Sta := if okI S i = false then (-nI 1, S) else if in3 w (nI 1) (nI 5) = false then (-nI 1, S) else if isOfB (eK S (nat i)) (nat w) = false then (-nI 3, fndS S 3) else (mkV S (nat i) (nat w), S)
def kpC (S : Sta) (q : Nat) : Int32 := match eP S q with
  | none => -nI 1
  | some E => nI E.1
def cnV (S : Sta) (w : Nat) : Int32 := match w with
  | 0 => nI (eN S)
  | 1 => nI (btE (eE S))
  | 2 => nI (eE S).1
  | 3 => skyS (eN S) (duE (eE S))
  | 4 => dueR (eN S) (dueS (eN S) (duE (eE S)))
  | 5 => sumS (eN S) (duE (eE S))
  | 6 => sumG (gN (thE (eE S))) (eN S)
  | 7 => cntG (okB (gN (eK S)) (nI 1) (nI 4)) (eN S)
  | 8 => cntG (okB (gN (eK S)) (nI 3) (nI 5)) (eN S)
  | 9 => cntG (thrB (rz S)) 6
  | 10 => cntG (thrB (tz S)) 4
  | _ => cntG (thrB (kpC S)) 3
def spCount (S : Sta) (w : Int32) : Int32 × Sta := if in3 w (nI 0) (nI 11) = false then (-nI 1, S) else (cnV S (nat w), S)

theorem pm_M_thing (S : Sta) (hp : List Am_C) (hRM : RM S hp) (i w : Int32) : ∃ hp', Am_Ev false 4 0 0 153 [.ref 0, .int i, .int w] hp (some (.int (spThing S i w).1)) hp' ∧ RM (spThing S i w).2 hp' := by
  obtain ⟨I, F, rfl, hx⟩ := hRM
  obtain ⟨hs, hr, ht, hl⟩ := id hx
  obtain ⟨g1, g2, g3, g4, g5, g6⟩ := hs
  have hI : I 2 = nI (eN S) := g1
  have hn : eN S ≤ 6 := g2
  have hk : ∀ i, i < eN S → F 2 i = nI (eK S i) ∧ eK S i < 6 := g3
  have hE : evM (F 1) 0 (eN S) (eE S) := g4
  have hG5 : gdE (eN S) (eE S) := g5
  have hap : apart (eN S) (duE (eE S)) := hG5 _ (Nat.le_refl _)
  obtain ⟨v1, v2, v3, v4, v5⟩ := id hE
  have hw : ∀ k, k < eN S → F 1 (0 + k) = nI (duE (eE S) k) := fun k q => (v3 k q).1
  have hw2 : ∀ k, k < eN S → F 1 k = nI (duE (eE S) k) := fun k q => by have := hw k q; rw [Nat.zero_add] at this; exact this
  have hm33 : F 1 533 = nI (eE S).1 := by have := v2; rw [Nat.zero_add] at this; exact this
  have eSky : skyG (fun i => F 1 (0 + i)) (eN S) = skyS (eN S) (duE (eE S)) := skyG_congr hw
  have eDue : dueG (fun i => F 1 (0 + i)) (eN S) 0 = dueS (eN S) (duE (eE S)) := dueG_congr hw _ 0 (by omega)
  have eMay : ∀ z, mayG (fun i => F 1 (0 + i)) (F 2) (eN S) z = mayS (eN S) (eK S) (duE (eE S)) z := fun z => mayG_congr hw (fun k q => (hk k q).1) z
  unfold spThing
  have hc1 := c_M_isThing I F S.2.2.2.2.2.2.1 S.2.2.2.2.2.2.2 i
  rw [hI] at hc1
  cases ho : okI S i with
  | false =>
    rw [if_pos rfl]
    rw [show in3 i (nI 0) (nI (eN S) - nI 1) = false from ho] at hc1
    refine ⟨_, am_ev 3 (some .int) false [] ok_M_thing am_mP_153 (by rw [am_m_153]) (by rw [am_m_153]) (fun h => by cases h) (Nat.le_of_ble_eq_true rfl) (fun Go hG => ?_), RM_of hx⟩
    refine hG 200 _ _ _ _ _ _ ?_
    refine Exists.intro 1 (Exists.intro _ (Exists.intro _ ⟨by decide, hc1, ?_⟩))
    refine br_t rfl ?_
    exact ⟨rfl, rfl, rfl, rfl⟩
  | true =>
    rw [if_neg (by decide)]
    rw [show in3 i (nI 0) (nI (eN S) - nI 1) = true from ho] at hc1
    obtain ⟨a, ha, rfl⟩ := in3_nat2 (k := eN S) (by omega) rfl ho
    rw [nat_nI (by omega)]
    have hc2 := c_M_in (mH I F S.2.2.2.2.2.2.1 S.2.2.2.2.2.2.2) w (nI 0) (nI 3)
    cases ho2 : in3 w (nI 0) (nI 3) with
    | false =>
      rw [if_pos rfl]
      rw [ho2] at hc2
      refine ⟨_, am_ev 3 (some .int) false [] ok_M_thing am_mP_153 (by rw [am_m_153]) (by rw [am_m_153]) (fun h => by cases h) (Nat.le_of_ble_eq_true rfl) (fun Go hG => ?_), RM_of hx⟩
      refine hG 200 _ _ _ _ _ _ ?_
      refine Exists.intro 1 (Exists.intro _ (Exists.intro _ ⟨by decide, hc1, ?_⟩))
      refine br_f (by decide) ?_
      refine Exists.intro 0 (Exists.intro _ (Exists.intro _ ⟨by decide, hc2, ?_⟩))
      refine bn_f rfl ?_
      exact ⟨rfl, rfl, rfl, rfl⟩
    | true =>
      rw [if_neg (by decide)]
      rw [ho2] at hc2
      obtain ⟨z, -, hz, rfl⟩ := in3_nat (by decide) (by decide) ho2
      rw [nat_nI (by omega)]
      have h7 := (v3 a ha).2
      rw [Nat.zero_add] at h7
      rcases (show z = 0 ∨ z = 1 ∨ z = 2 ∨ z = 3 by omega) with rfl | rfl | rfl | rfl
      · refine ⟨_, am_ev 3 (some .int) false [] ok_M_thing am_mP_153 (by rw [am_m_153]) (by rw [am_m_153]) (fun h => by cases h) (Nat.le_of_ble_eq_true rfl) (fun Go hG => ?_), RM_tell hx _⟩
        refine hG 200 _ _ _ _ _ _ ?_
        refine Exists.intro 1 (Exists.intro _ (Exists.intro _ ⟨by decide, hc1, ?_⟩))
        refine br_f (by decide) ?_
        refine Exists.intro 0 (Exists.intro _ (Exists.intro _ ⟨by decide, hc2, ?_⟩))
        refine bn_t (by decide) ?_
        refine bn_f rfl ?_
        refine Exists.intro a ⟨by omega, rfl, ?_⟩
        have ht2 := c_M_tell I F S.2.2.2.2.2.2.1 S.2.2.2.2.2.2.2 (F 2 a)
        refine Exists.intro 0 (Exists.intro _ (Exists.intro _ ⟨by decide, ht2, ?_⟩))
        exact ⟨rfl, by rw [(hk a ha).1]; rfl, rfl, rfl⟩
      · refine ⟨_, am_ev 3 (some .int) false [] ok_M_thing am_mP_153 (by rw [am_m_153]) (by rw [am_m_153]) (fun h => by cases h) (Nat.le_of_ble_eq_true rfl) (fun Go hG => ?_), RM_tell hx _⟩
        refine hG 200 _ _ _ _ _ _ ?_
        refine Exists.intro 1 (Exists.intro _ (Exists.intro _ ⟨by decide, hc1, ?_⟩))
        refine br_f (by decide) ?_
        refine Exists.intro 0 (Exists.intro _ (Exists.intro _ ⟨by decide, hc2, ?_⟩))
        refine bn_t (by decide) ?_
        refine bn_t (by decide) ?_
        refine bn_f rfl ?_
        refine Exists.intro a ⟨by omega, rfl, ?_⟩
        have ht2 := c_M_tell I F S.2.2.2.2.2.2.1 S.2.2.2.2.2.2.2 (F 1 a)
        refine Exists.intro 0 (Exists.intro _ (Exists.intro _ ⟨by decide, ht2, ?_⟩))
        exact ⟨rfl, by rw [hw2 a ha]; rfl, rfl, rfl⟩
      · refine ⟨_, am_ev 3 (some .int) false [] ok_M_thing am_mP_153 (by rw [am_m_153]) (by rw [am_m_153]) (fun h => by cases h) (Nat.le_of_ble_eq_true rfl) (fun Go hG => ?_), RM_tell hx _⟩
        refine hG 200 _ _ _ _ _ _ ?_
        refine Exists.intro 1 (Exists.intro _ (Exists.intro _ ⟨by decide, hc1, ?_⟩))
        refine br_f (by decide) ?_
        refine Exists.intro 0 (Exists.intro _ (Exists.intro _ ⟨by decide, hc2, ?_⟩))
        refine bn_t (by decide) ?_
        refine bn_t (by decide) ?_
        refine bn_t (by decide) ?_
        refine bn_f rfl ?_
        refine Exists.intro a ⟨by omega, rfl, ?_⟩
        refine Exists.intro 1 (Exists.intro _ (Exists.intro _ ⟨by decide, c_M_heightsOf _ _, ?_⟩))
        have ht2 := c_M_tell I F S.2.2.2.2.2.2.1 S.2.2.2.2.2.2.2 (hgtG (canI (F 2 a)) 7)
        refine Exists.intro 0 (Exists.intro _ (Exists.intro _ ⟨by decide, ht2, ?_⟩))
        exact ⟨rfl, by rw [(hk a ha).1]; rfl, rfl, rfl⟩
      · refine ⟨_, am_ev 3 (some .int) false [] ok_M_thing am_mP_153 (by rw [am_m_153]) (by rw [am_m_153]) (fun h => by cases h) (Nat.le_of_ble_eq_true rfl) (fun Go hG => ?_), RM_tell hx _⟩
        refine hG 200 _ _ _ _ _ _ ?_
        refine Exists.intro 1 (Exists.intro _ (Exists.intro _ ⟨by decide, hc1, ?_⟩))
        refine br_f (by decide) ?_
        refine Exists.intro 0 (Exists.intro _ (Exists.intro _ ⟨by decide, hc2, ?_⟩))
        refine bn_t (by decide) ?_
        refine bn_t (by decide) ?_
        refine bn_t (by decide) ?_
        refine bn_t (by decide) ?_
        refine Exists.intro (6 + a) ⟨by omega, nI_add 6 a, ?_⟩
        have ht2 := c_M_tell I F S.2.2.2.2.2.2.1 S.2.2.2.2.2.2.2 (F 1 (6 + a))
        refine Exists.intro 0 (Exists.intro _ (Exists.intro _ ⟨by decide, ht2, ?_⟩))
        exact ⟨rfl, by rw [h7]; rfl, rfl, rfl⟩
end
section
/-! ===== the reference: mark, count ===== -/
theorem pm_M_count (S : Sta) (hp : List Am_C) (hRM : RM S hp) (w : Int32) : ∃ hp', Am_Ev false 4 0 0 216 [.ref 0, .int w] hp (some (.int (spCount S w).1)) hp' ∧ RM (spCount S w).2 hp' := by
  obtain ⟨I, F, rfl, hx⟩ := hRM
  obtain ⟨hs, hr, ht, hl⟩ := id hx
  obtain ⟨g1, g2, g3, g4, g5, g6⟩ := hs
  have hI : I 2 = nI (eN S) := g1
  have hn : eN S ≤ 6 := g2
  have hk : ∀ i, i < eN S → F 2 i = nI (eK S i) ∧ eK S i < 6 := g3
  have hE : evM (F 1) 0 (eN S) (eE S) := g4
  have hG5 : gdE (eN S) (eE S) := g5
  have hap : apart (eN S) (duE (eE S)) := hG5 _ (Nat.le_refl _)
  obtain ⟨v1, v2, v3, v4, v5⟩ := id hE
  have hw : ∀ k, k < eN S → F 1 (0 + k) = nI (duE (eE S) k) := fun k q => (v3 k q).1
  have hw2 : ∀ k, k < eN S → F 1 k = nI (duE (eE S) k) := fun k q => by have := hw k q; rw [Nat.zero_add] at this; exact this
  have hm33 : F 1 533 = nI (eE S).1 := by have := v2; rw [Nat.zero_add] at this; exact this
  have eSky : skyG (fun i => F 1 (0 + i)) (eN S) = skyS (eN S) (duE (eE S)) := skyG_congr hw
  have eDue : dueG (fun i => F 1 (0 + i)) (eN S) 0 = dueS (eN S) (duE (eE S)) := dueG_congr hw _ 0 (by omega)
  have eMay : ∀ z, mayG (fun i => F 1 (0 + i)) (F 2) (eN S) z = mayS (eN S) (eK S) (duE (eE S)) z := fun z => mayG_congr hw (fun k q => (hk k q).1) z
  have hkp : ∀ q, q < 3 → F 3 q = kpC S q := by
    intro q hq
    have g8 : match eP S q with
      | none => F 3 q = -nI 1
      | some E => F 3 q = nI E.1 ∧ evM (F 1) (534 * (q + 1)) (eN S) E ∧ gdE (eN S) E := g6 q hq
    unfold kpC
    cases he : eP S q with
    | none => rw [he] at g8; exact g8
    | some E2 => rw [he] at g8; exact g8.1
  have hb12 : F 1 12 = nI (btE (eE S)) := by have := v4; rw [Nat.zero_add] at this; exact this
  unfold spCount
  cases ho : in3 w (nI 0) (nI 11) with
  | false =>
    rw [if_pos rfl]
    refine ⟨_, am_ev 2 (some .int) false [] ok_M_count am_mP_216 (by rw [am_m_216]) (by rw [am_m_216]) (fun h => by cases h) (Nat.le_of_ble_eq_true rfl) (fun Go hG => ?_), RM_of hx⟩
    refine hG 200 _ _ _ _ _ _ ?_
    refine And.intro (fun h => ?_) (And.intro (fun h => (by have h9 := in3_true (x := w) (a := 0) (b := 11) (by decide) (by decide) (by omega) (by omega); rw [ho] at h9; cases h9)) (And.intro (fun h => (by have h9 := in3_true (x := w) (a := 0) (b := 11) (by decide) (by decide) (by omega) (by omega); rw [ho] at h9; cases h9)) (And.intro (fun h => (by have h9 := in3_true (x := w) (a := 0) (b := 11) (by decide) (by decide) (by omega) (by omega); rw [ho] at h9; cases h9)) (And.intro (fun h => (by have h9 := in3_true (x := w) (a := 0) (b := 11) (by decide) (by decide) (by omega) (by omega); rw [ho] at h9; cases h9)) (And.intro (fun h => (by have h9 := in3_true (x := w) (a := 0) (b := 11) (by decide) (by decide) (by omega) (by omega); rw [ho] at h9; cases h9)) (And.intro (fun h => (by have h9 := in3_true (x := w) (a := 0) (b := 11) (by decide) (by decide) (by omega) (by omega); rw [ho] at h9; cases h9)) (And.intro (fun h => (by have h9 := in3_true (x := w) (a := 0) (b := 11) (by decide) (by decide) (by omega) (by omega); rw [ho] at h9; cases h9)) (And.intro (fun h => (by have h9 := in3_true (x := w) (a := 0) (b := 11) (by decide) (by decide) (by omega) (by omega); rw [ho] at h9; cases h9)) (And.intro (fun h => (by have h9 := in3_true (x := w) (a := 0) (b := 11) (by decide) (by decide) (by omega) (by omega); rw [ho] at h9; cases h9)) (And.intro (fun h => (by have h9 := in3_true (x := w) (a := 0) (b := 11) (by decide) (by decide) (by omega) (by omega); rw [ho] at h9; cases h9)) (And.intro (fun h => (by have h9 := in3_true (x := w) (a := 0) (b := 11) (by decide) (by decide) (by omega) (by omega); rw [ho] at h9; cases h9)) (And.intro (fun h => (by have h9 := in3_true (x := w) (a := 0) (b := 11) (by decide) (by decide) (by omega) (by omega); rw [ho] at h9; cases h9)) (trivial)))))))))))))
    exact ⟨rfl, rfl, rfl, rfl⟩
  | true =>
    rw [if_neg (by decide)]
    obtain ⟨z, -, hz, rfl⟩ := in3_nat (by decide) (by decide) ho
    rw [nat_nI (by omega)]
    rcases (show z = 0 ∨ z = 1 ∨ z = 2 ∨ z = 3 ∨ z = 4 ∨ z = 5 ∨ z = 6 ∨ z = 7 ∨ z = 8 ∨ z = 9 ∨ z = 10 ∨ z = 11 by omega) with rfl | rfl | rfl | rfl | rfl | rfl | rfl | rfl | rfl | rfl | rfl | rfl
    · refine ⟨_, am_ev 2 (some .int) false [] ok_M_count am_mP_216 (by rw [am_m_216]) (by rw [am_m_216]) (fun h => by cases h) (Nat.le_of_ble_eq_true rfl) (fun Go hG => ?_), RM_of hx⟩
      refine hG 200 _ _ _ _ _ _ ?_
      refine And.intro (fun h => absurd h (by decide)) (And.intro (fun h => ?_) (And.intro (fun h => absurd h (by decide)) (And.intro (fun h => absurd h (by decide)) (And.intro (fun h => absurd h (by decide)) (And.intro (fun h => absurd h (by decide)) (And.intro (fun h => absurd h (by decide)) (And.intro (fun h => absurd h (by decide)) (And.intro (fun h => absurd h (by decide)) (And.intro (fun h => absurd h (by decide)) (And.intro (fun h => absurd h (by decide)) (And.intro (fun h => absurd h (by decide)) (And.intro (fun h => absurd h (by decide)) (trivial)))))))))))))
      exact ⟨by rw [hI]; rfl, rfl, rfl, rfl⟩
    · refine ⟨_, am_ev 2 (some .int) false [] ok_M_count am_mP_216 (by rw [am_m_216]) (by rw [am_m_216]) (fun h => by cases h) (Nat.le_of_ble_eq_true rfl) (fun Go hG => ?_), RM_of hx⟩
      refine hG 200 _ _ _ _ _ _ ?_
      refine And.intro (fun h => absurd h (by decide)) (And.intro (fun h => absurd h (by decide)) (And.intro (fun h => ?_) (And.intro (fun h => absurd h (by decide)) (And.intro (fun h => absurd h (by decide)) (And.intro (fun h => absurd h (by decide)) (And.intro (fun h => absurd h (by decide)) (And.intro (fun h => absurd h (by decide)) (And.intro (fun h => absurd h (by decide)) (And.intro (fun h => absurd h (by decide)) (And.intro (fun h => absurd h (by decide)) (And.intro (fun h => absurd h (by decide)) (And.intro (fun h => absurd h (by decide)) (trivial)))))))))))))
      refine Exists.intro 12 ⟨by omega, rfl, ?_⟩
      exact ⟨by rw [hb12]; rfl, rfl, rfl, rfl⟩
    · refine ⟨_, am_ev 2 (some .int) false [] ok_M_count am_mP_216 (by rw [am_m_216]) (by rw [am_m_216]) (fun h => by cases h) (Nat.le_of_ble_eq_true rfl) (fun Go hG => ?_), RM_of hx⟩
      refine hG 200 _ _ _ _ _ _ ?_
      refine And.intro (fun h => absurd h (by decide)) (And.intro (fun h => absurd h (by decide)) (And.intro (fun h => absurd h (by decide)) (And.intro (fun h => ?_) (And.intro (fun h => absurd h (by decide)) (And.intro (fun h => absurd h (by decide)) (And.intro (fun h => absurd h (by decide)) (And.intro (fun h => absurd h (by decide)) (And.intro (fun h => absurd h (by decide)) (And.intro (fun h => absurd h (by decide)) (And.intro (fun h => absurd h (by decide)) (And.intro (fun h => absurd h (by decide)) (And.intro (fun h => absurd h (by decide)) (trivial)))))))))))))
      refine Exists.intro 533 ⟨by omega, rfl, ?_⟩
      exact ⟨by rw [hm33]; rfl, rfl, rfl, rfl⟩
    · refine ⟨_, am_ev 2 (some .int) false [] ok_M_count am_mP_216 (by rw [am_m_216]) (by rw [am_m_216]) (fun h => by cases h) (Nat.le_of_ble_eq_true rfl) (fun Go hG => ?_), RM_of hx⟩
      refine hG 200 _ _ _ _ _ _ ?_
      refine And.intro (fun h => absurd h (by decide)) (And.intro (fun h => absurd h (by decide)) (And.intro (fun h => absurd h (by decide)) (And.intro (fun h => absurd h (by decide)) (And.intro (fun h => ?_) (And.intro (fun h => absurd h (by decide)) (And.intro (fun h => absurd h (by decide)) (And.intro (fun h => absurd h (by decide)) (And.intro (fun h => absurd h (by decide)) (And.intro (fun h => absurd h (by decide)) (And.intro (fun h => absurd h (by decide)) (And.intro (fun h => absurd h (by decide)) (And.intro (fun h => absurd h (by decide)) (trivial)))))))))))))
      have hc := c_M_skyAt I F S.2.2.2.2.2.2.1 S.2.2.2.2.2.2.2 (eN S) 0 hI hn (by omega)
      rw [eSky] at hc
      refine Exists.intro 0 (Exists.intro _ (Exists.intro _ ⟨by decide, hc, ?_⟩))
      exact ⟨rfl, rfl, rfl, rfl⟩
    · refine ⟨_, am_ev 2 (some .int) false [] ok_M_count am_mP_216 (by rw [am_m_216]) (by rw [am_m_216]) (fun h => by cases h) (Nat.le_of_ble_eq_true rfl) (fun Go hG => ?_), RM_of hx⟩
      refine hG 200 _ _ _ _ _ _ ?_
      refine And.intro (fun h => absurd h (by decide)) (And.intro (fun h => absurd h (by decide)) (And.intro (fun h => absurd h (by decide)) (And.intro (fun h => absurd h (by decide)) (And.intro (fun h => absurd h (by decide)) (And.intro (fun h => ?_) (And.intro (fun h => absurd h (by decide)) (And.intro (fun h => absurd h (by decide)) (And.intro (fun h => absurd h (by decide)) (And.intro (fun h => absurd h (by decide)) (And.intro (fun h => absurd h (by decide)) (And.intro (fun h => absurd h (by decide)) (And.intro (fun h => absurd h (by decide)) (trivial)))))))))))))
      have hc := c_M_dueAt I F S.2.2.2.2.2.2.1 S.2.2.2.2.2.2.2 (eN S) 0 hI hn (by omega)
      rw [eDue] at hc
      refine Exists.intro 0 (Exists.intro _ (Exists.intro _ ⟨by decide, hc, ?_⟩))
      exact ⟨rfl, rfl, rfl, rfl⟩
    · refine ⟨_, am_ev 2 (some .int) false [] ok_M_count am_mP_216 (by rw [am_m_216]) (by rw [am_m_216]) (fun h => by cases h) (Nat.le_of_ble_eq_true rfl) (fun Go hG => ?_), RM_of hx⟩
      refine hG 200 _ _ _ _ _ _ ?_
      refine And.intro (fun h => absurd h (by decide)) (And.intro (fun h => absurd h (by decide)) (And.intro (fun h => absurd h (by decide)) (And.intro (fun h => absurd h (by decide)) (And.intro (fun h => absurd h (by decide)) (And.intro (fun h => absurd h (by decide)) (And.intro (fun h => ?_) (And.intro (fun h => absurd h (by decide)) (And.intro (fun h => absurd h (by decide)) (And.intro (fun h => absurd h (by decide)) (And.intro (fun h => absurd h (by decide)) (And.intro (fun h => absurd h (by decide)) (And.intro (fun h => absurd h (by decide)) (trivial)))))))))))))
      have hc := c_M_sumAt I F S.2.2.2.2.2.2.1 S.2.2.2.2.2.2.2 (eN S) 0 hI hn (by omega)
      rw [show sumG (fun i => F 1 (0 + i)) (eN S) = sumS (eN S) (duE (eE S)) from sumG_congr hw] at hc
      refine Exists.intro 0 (Exists.intro _ (Exists.intro _ ⟨by decide, hc, ?_⟩))
      exact ⟨rfl, rfl, rfl, rfl⟩
    · refine ⟨_, am_ev 2 (some .int) false [] ok_M_count am_mP_216 (by rw [am_m_216]) (by rw [am_m_216]) (fun h => by cases h) (Nat.le_of_ble_eq_true rfl) (fun Go hG => ?_), RM_of hx⟩
      refine hG 200 _ _ _ _ _ _ ?_
      refine And.intro (fun h => absurd h (by decide)) (And.intro (fun h => absurd h (by decide)) (And.intro (fun h => absurd h (by decide)) (And.intro (fun h => absurd h (by decide)) (And.intro (fun h => absurd h (by decide)) (And.intro (fun h => absurd h (by decide)) (And.intro (fun h => absurd h (by decide)) (And.intro (fun h => ?_) (And.intro (fun h => absurd h (by decide)) (And.intro (fun h => absurd h (by decide)) (And.intro (fun h => absurd h (by decide)) (And.intro (fun h => absurd h (by decide)) (And.intro (fun h => absurd h (by decide)) (trivial)))))))))))))
      have hc := c_M_throwsMade I F S.2.2.2.2.2.2.1 S.2.2.2.2.2.2.2 (eN S) hI hn
      rw [show sumG (fun k => F 1 (6 + k)) (eN S) = sumG (gN (thE (eE S))) (eN S) from sumG_congr (fun k q => by have h7 := (v3 k q).2; rw [Nat.zero_add] at h7; exact h7)] at hc
      refine Exists.intro 0 (Exists.intro _ (Exists.intro _ ⟨by decide, hc, ?_⟩))
      exact ⟨rfl, rfl, rfl, rfl⟩
    · refine ⟨_, am_ev 2 (some .int) false [] ok_M_count am_mP_216 (by rw [am_m_216]) (by rw [am_m_216]) (fun h => by cases h) (Nat.le_of_ble_eq_true rfl) (fun Go hG => ?_), RM_of hx⟩
      refine hG 200 _ _ _ _ _ _ ?_
      refine And.intro (fun h => absurd h (by decide)) (And.intro (fun h => absurd h (by decide)) (And.intro (fun h => absurd h (by decide)) (And.intro (fun h => absurd h (by decide)) (And.intro (fun h => absurd h (by decide)) (And.intro (fun h => absurd h (by decide)) (And.intro (fun h => absurd h (by decide)) (And.intro (fun h => absurd h (by decide)) (And.intro (fun h => ?_) (And.intro (fun h => absurd h (by decide)) (And.intro (fun h => absurd h (by decide)) (And.intro (fun h => absurd h (by decide)) (And.intro (fun h => absurd h (by decide)) (trivial)))))))))))))
      have hc := c_M_ofKinds I F S.2.2.2.2.2.2.1 S.2.2.2.2.2.2.2 (eN S) hI hn (nI 1) (nI 4)
      rw [show cntG (okB (F 2) (nI 1) (nI 4)) (eN S) = cntG (okB (gN (eK S)) (nI 1) (nI 4)) (eN S) from cntG_congr (fun k q => by unfold okB; rw [(hk k q).1]; rfl)] at hc
      refine Exists.intro 0 (Exists.intro _ (Exists.intro _ ⟨by decide, hc, ?_⟩))
      exact ⟨rfl, rfl, rfl, rfl⟩
    · refine ⟨_, am_ev 2 (some .int) false [] ok_M_count am_mP_216 (by rw [am_m_216]) (by rw [am_m_216]) (fun h => by cases h) (Nat.le_of_ble_eq_true rfl) (fun Go hG => ?_), RM_of hx⟩
      refine hG 200 _ _ _ _ _ _ ?_
      refine And.intro (fun h => absurd h (by decide)) (And.intro (fun h => absurd h (by decide)) (And.intro (fun h => absurd h (by decide)) (And.intro (fun h => absurd h (by decide)) (And.intro (fun h => absurd h (by decide)) (And.intro (fun h => absurd h (by decide)) (And.intro (fun h => absurd h (by decide)) (And.intro (fun h => absurd h (by decide)) (And.intro (fun h => absurd h (by decide)) (And.intro (fun h => ?_) (And.intro (fun h => absurd h (by decide)) (And.intro (fun h => absurd h (by decide)) (And.intro (fun h => absurd h (by decide)) (trivial)))))))))))))
      have hc := c_M_ofKinds I F S.2.2.2.2.2.2.1 S.2.2.2.2.2.2.2 (eN S) hI hn (nI 3) (nI 5)
      rw [show cntG (okB (F 2) (nI 3) (nI 5)) (eN S) = cntG (okB (gN (eK S)) (nI 3) (nI 5)) (eN S) from cntG_congr (fun k q => by unfold okB; rw [(hk k q).1]; rfl)] at hc
      refine Exists.intro 0 (Exists.intro _ (Exists.intro _ ⟨by decide, hc, ?_⟩))
      exact ⟨rfl, rfl, rfl, rfl⟩
    · refine ⟨_, am_ev 2 (some .int) false [] ok_M_count am_mP_216 (by rw [am_m_216]) (by rw [am_m_216]) (fun h => by cases h) (Nat.le_of_ble_eq_true rfl) (fun Go hG => ?_), RM_of hx⟩
      refine hG 200 _ _ _ _ _ _ ?_
      refine And.intro (fun h => absurd h (by decide)) (And.intro (fun h => absurd h (by decide)) (And.intro (fun h => absurd h (by decide)) (And.intro (fun h => absurd h (by decide)) (And.intro (fun h => absurd h (by decide)) (And.intro (fun h => absurd h (by decide)) (And.intro (fun h => absurd h (by decide)) (And.intro (fun h => absurd h (by decide)) (And.intro (fun h => absurd h (by decide)) (And.intro (fun h => absurd h (by decide)) (And.intro (fun h => ?_) (And.intro (fun h => absurd h (by decide)) (And.intro (fun h => absurd h (by decide)) (trivial)))))))))))))
      have hc := c_M_thereAre I F S.2.2.2.2.2.2.1 S.2.2.2.2.2.2.2 5 6 (by omega)
      rw [show cntG (thrB (F 5)) 6 = cntG (thrB (rz S)) 6 from cntG_congr (fun k q => by unfold thrB; rw [(hr k q).1]; rfl)] at hc
      refine Exists.intro 0 (Exists.intro _ (Exists.intro _ ⟨by decide, hc, ?_⟩))
      exact ⟨rfl, rfl, rfl, rfl⟩
    · refine ⟨_, am_ev 2 (some .int) false [] ok_M_count am_mP_216 (by rw [am_m_216]) (by rw [am_m_216]) (fun h => by cases h) (Nat.le_of_ble_eq_true rfl) (fun Go hG => ?_), RM_of hx⟩
      refine hG 200 _ _ _ _ _ _ ?_
      refine And.intro (fun h => absurd h (by decide)) (And.intro (fun h => absurd h (by decide)) (And.intro (fun h => absurd h (by decide)) (And.intro (fun h => absurd h (by decide)) (And.intro (fun h => absurd h (by decide)) (And.intro (fun h => absurd h (by decide)) (And.intro (fun h => absurd h (by decide)) (And.intro (fun h => absurd h (by decide)) (And.intro (fun h => absurd h (by decide)) (And.intro (fun h => absurd h (by decide)) (And.intro (fun h => absurd h (by decide)) (And.intro (fun h => ?_) (And.intro (fun h => absurd h (by decide)) (trivial)))))))))))))
      have hc := c_M_thereAre I F S.2.2.2.2.2.2.1 S.2.2.2.2.2.2.2 7 4 (by omega)
      rw [show cntG (thrB (F 7)) 4 = cntG (thrB (tz S)) 4 from cntG_congr (fun k q => by unfold thrB; rw [(ht k q).1]; rfl)] at hc
      refine Exists.intro 0 (Exists.intro _ (Exists.intro _ ⟨by decide, hc, ?_⟩))
      exact ⟨rfl, rfl, rfl, rfl⟩
    · refine ⟨_, am_ev 2 (some .int) false [] ok_M_count am_mP_216 (by rw [am_m_216]) (by rw [am_m_216]) (fun h => by cases h) (Nat.le_of_ble_eq_true rfl) (fun Go hG => ?_), RM_of hx⟩
      refine hG 200 _ _ _ _ _ _ ?_
      refine And.intro (fun h => absurd h (by decide)) (And.intro (fun h => absurd h (by decide)) (And.intro (fun h => absurd h (by decide)) (And.intro (fun h => absurd h (by decide)) (And.intro (fun h => absurd h (by decide)) (And.intro (fun h => absurd h (by decide)) (And.intro (fun h => absurd h (by decide)) (And.intro (fun h => absurd h (by decide)) (And.intro (fun h => absurd h (by decide)) (And.intro (fun h => absurd h (by decide)) (And.intro (fun h => absurd h (by decide)) (And.intro (fun h => absurd h (by decide)) (And.intro (fun h => ?_) (trivial)))))))))))))
      have hc := c_M_thereAre I F S.2.2.2.2.2.2.1 S.2.2.2.2.2.2.2 3 3 (by omega)
      rw [show cntG (thrB (F 3)) 3 = cntG (thrB (kpC S)) 3 from cntG_congr (fun k q => by unfold thrB; rw [hkp k q])] at hc
      refine Exists.intro 0 (Exists.intro _ (Exists.intro _ ⟨by decide, hc, ?_⟩))
      exact ⟨rfl, rfl, rfl, rfl⟩

theorem pm_M_mark (S : Sta) (hp : List Am_C) (hRM : RM S hp) (i w : Int32) : ∃ hp', Am_Ev false 4 0 0 157 [.ref 0, .int i, .int w] hp (some (.int (spMark S i w).1)) hp' ∧ RM (spMark S i w).2 hp' := by
  obtain ⟨I, F, rfl, hx⟩ := hRM
  obtain ⟨hs, hr, ht, hl⟩ := id hx
  obtain ⟨g1, g2, g3, g4, g5, g6⟩ := hs
  have hI : I 2 = nI (eN S) := g1
  have hn : eN S ≤ 6 := g2
  have hk : ∀ i, i < eN S → F 2 i = nI (eK S i) ∧ eK S i < 6 := g3
  have hE : evM (F 1) 0 (eN S) (eE S) := g4
  have hG5 : gdE (eN S) (eE S) := g5
  have hap : apart (eN S) (duE (eE S)) := hG5 _ (Nat.le_refl _)
  obtain ⟨v1, v2, v3, v4, v5⟩ := id hE
  have hw : ∀ k, k < eN S → F 1 (0 + k) = nI (duE (eE S) k) := fun k q => (v3 k q).1
  have hw2 : ∀ k, k < eN S → F 1 k = nI (duE (eE S) k) := fun k q => by have := hw k q; rw [Nat.zero_add] at this; exact this
  have hm33 : F 1 533 = nI (eE S).1 := by have := v2; rw [Nat.zero_add] at this; exact this
  have eSky : skyG (fun i => F 1 (0 + i)) (eN S) = skyS (eN S) (duE (eE S)) := skyG_congr hw
  have eDue : dueG (fun i => F 1 (0 + i)) (eN S) 0 = dueS (eN S) (duE (eE S)) := dueG_congr hw _ 0 (by omega)
  have eMay : ∀ z, mayG (fun i => F 1 (0 + i)) (F 2) (eN S) z = mayS (eN S) (eK S) (duE (eE S)) z := fun z => mayG_congr hw (fun k q => (hk k q).1) z
  unfold spMark
  have hc1 := c_M_isThing I F S.2.2.2.2.2.2.1 S.2.2.2.2.2.2.2 i
  rw [hI] at hc1
  cases ho : okI S i with
  | false =>
    rw [if_pos rfl]
    rw [show in3 i (nI 0) (nI (eN S) - nI 1) = false from ho] at hc1
    refine ⟨_, am_ev 4 (some .int) false [64] ok_M_mark am_mP_157 (by rw [am_m_157]) (by rw [am_m_157]) (fun h => by cases h) (Nat.le_of_ble_eq_true rfl) (fun Go hG => ?_), RM_of hx⟩
    refine hG 200 _ _ _ _ _ _ ?_
    refine Exists.intro 1 (Exists.intro _ (Exists.intro _ ⟨by decide, hc1, ?_⟩))
    refine br_t rfl ?_
    exact ⟨rfl, rfl, rfl, rfl⟩
  | true =>
    rw [if_neg (by decide)]
    rw [show in3 i (nI 0) (nI (eN S) - nI 1) = true from ho] at hc1
    obtain ⟨a, ha, rfl⟩ := in3_nat2 (k := eN S) (by omega) rfl ho
    rw [nat_nI (by omega)]
    have hc2 := c_M_in (mH I F S.2.2.2.2.2.2.1 S.2.2.2.2.2.2.2) w (nI 1) (nI 5)
    cases ho2 : in3 w (nI 1) (nI 5) with
    | false =>
      rw [if_pos rfl]
      rw [ho2] at hc2
      refine ⟨_, am_ev 4 (some .int) false [64] ok_M_mark am_mP_157 (by rw [am_m_157]) (by rw [am_m_157]) (fun h => by cases h) (Nat.le_of_ble_eq_true rfl) (fun Go hG => ?_), RM_of hx⟩
      refine hG 200 _ _ _ _ _ _ ?_
      refine Exists.intro 1 (Exists.intro _ (Exists.intro _ ⟨by decide, hc1, ?_⟩))
      refine br_f (by decide) ?_
      refine Exists.intro 0 (Exists.intro _ (Exists.intro _ ⟨by decide, hc2, ?_⟩))
      refine bn_f rfl ?_
      exact ⟨rfl, rfl, rfl, rfl⟩
    | true =>
      rw [if_neg (by decide)]
      rw [ho2] at hc2
      obtain ⟨z, hz1, hz, rfl⟩ := in3_nat (by decide) (by decide) ho2
      rw [nat_nI (by omega)]
      have hka := (hk a ha).1
      have hkb := (hk a ha).2
      have key : ∀ Go : Am_K, ∀ (rr : Option Value) (hh : List Am_C), (∀ (n pc : Nat) (loc : List (Option Value)) (st : List Value) (hp : List Am_C) (nc ns : Nat), am_blk cd_M_mark [64] 4 0 0 false false (some .int) (am_post rr hh 0 0) Go n pc loc st hp nc ns → Go pc loc st hp nc ns) → Go 64 [some (.ref 0), some (.int (nI a)), some (.int (nI z)), none] [.int (b2 (isOfB (eK S a) z))] (mH I F S.2.2.2.2.2.2.1 S.2.2.2.2.2.2.2) 0 0 → Go 0 (am_loc 4 [.ref 0, .int (nI a), .int (nI z)]) [] (mH I F S.2.2.2.2.2.2.1 S.2.2.2.2.2.2.2) 0 0 := by
        intro Go rr hh hG hgo
        refine hG 200 _ _ _ _ _ _ ?_
        refine Exists.intro 1 (Exists.intro _ (Exists.intro _ ⟨by decide, hc1, ?_⟩))
        refine br_f (by decide) ?_
        refine Exists.intro 0 (Exists.intro _ (Exists.intro _ ⟨by decide, hc2, ?_⟩))
        refine bn_t (by decide) ?_
        refine Exists.intro a ⟨by omega, rfl, ?_⟩
        have hka' : F 2 a = nI (eK S a) := hka
        clear hka
        generalize eK S a = kk at hka' hkb hgo
        rcases lt6 hkb with rfl | rfl | rfl | rfl | rfl | rfl
        · rcases (show z = 1 ∨ z = 2 ∨ z = 3 ∨ z = 4 ∨ z = 5 by omega) with rfl | rfl | rfl | rfl | rfl
          · refine br_f (by rw [hka']; decide) ?_
            refine bn_f rfl ?_
            refine Exists.intro a ⟨by omega, rfl, ?_⟩
            refine br_f (by rw [hka']; decide) ?_
            refine bn_t (by decide) ?_
            exact hgo
          · refine br_f (by rw [hka']; decide) ?_
            refine bn_t (by decide) ?_
            refine bn_t (by decide) ?_
            exact hgo
          · refine br_f (by rw [hka']; decide) ?_
            refine bn_t (by decide) ?_
            refine bn_f rfl ?_
            refine Exists.intro a ⟨by omega, rfl, ?_⟩
            refine bn_t (by rw [hka']; decide) ?_
            exact hgo
          · refine br_f (by rw [hka']; decide) ?_
            refine bn_t (by decide) ?_
            refine bn_t (by decide) ?_
            exact hgo
          · refine br_f (by rw [hka']; decide) ?_
            refine bn_t (by decide) ?_
            refine bn_t (by decide) ?_
            exact hgo
        · rcases (show z = 1 ∨ z = 2 ∨ z = 3 ∨ z = 4 ∨ z = 5 by omega) with rfl | rfl | rfl | rfl | rfl
          · refine br_t hka' ?_
            exact hgo
          · refine br_f (by rw [hka']; decide) ?_
            refine bn_t (by decide) ?_
            refine bn_t (by decide) ?_
            exact hgo
          · refine br_f (by rw [hka']; decide) ?_
            refine bn_t (by decide) ?_
            refine bn_f rfl ?_
            refine Exists.intro a ⟨by omega, rfl, ?_⟩
            refine bn_t (by rw [hka']; decide) ?_
            exact hgo
          · refine br_f (by rw [hka']; decide) ?_
            refine bn_t (by decide) ?_
            refine bn_t (by decide) ?_
            exact hgo
          · refine br_f (by rw [hka']; decide) ?_
            refine bn_t (by decide) ?_
            refine bn_t (by decide) ?_
            exact hgo
        · rcases (show z = 1 ∨ z = 2 ∨ z = 3 ∨ z = 4 ∨ z = 5 by omega) with rfl | rfl | rfl | rfl | rfl
          · refine br_f (by rw [hka']; decide) ?_
            refine bn_f rfl ?_
            refine Exists.intro a ⟨by omega, rfl, ?_⟩
            refine br_f (by rw [hka']; decide) ?_
            refine bn_t (by decide) ?_
            exact hgo
          · refine br_t hka' ?_
            exact hgo
          · refine br_f (by rw [hka']; decide) ?_
            refine bn_t (by decide) ?_
            refine bn_f rfl ?_
            refine Exists.intro a ⟨by omega, rfl, ?_⟩
            refine bn_t (by rw [hka']; decide) ?_
            exact hgo
          · refine br_f (by rw [hka']; decide) ?_
            refine bn_t (by decide) ?_
            refine bn_t (by decide) ?_
            exact hgo
          · refine br_f (by rw [hka']; decide) ?_
            refine bn_t (by decide) ?_
            refine bn_t (by decide) ?_
            exact hgo
        · rcases (show z = 1 ∨ z = 2 ∨ z = 3 ∨ z = 4 ∨ z = 5 by omega) with rfl | rfl | rfl | rfl | rfl
          · refine br_f (by rw [hka']; decide) ?_
            refine bn_f rfl ?_
            refine Exists.intro a ⟨by omega, rfl, ?_⟩
            refine br_f (by rw [hka']; decide) ?_
            refine bn_t (by decide) ?_
            exact hgo
          · refine br_f (by rw [hka']; decide) ?_
            refine bn_t (by decide) ?_
            refine bn_t (by decide) ?_
            exact hgo
          · refine br_t hka' ?_
            exact hgo
          · refine br_f (by rw [hka']; decide) ?_
            refine bn_t (by decide) ?_
            refine bn_t (by decide) ?_
            exact hgo
          · refine br_f (by rw [hka']; decide) ?_
            refine bn_t (by decide) ?_
            refine bn_t (by decide) ?_
            exact hgo
        · rcases (show z = 1 ∨ z = 2 ∨ z = 3 ∨ z = 4 ∨ z = 5 by omega) with rfl | rfl | rfl | rfl | rfl
          · refine br_f (by rw [hka']; decide) ?_
            refine bn_f rfl ?_
            refine Exists.intro a ⟨by omega, rfl, ?_⟩
            refine br_t hka' ?_
            exact hgo
          · refine br_f (by rw [hka']; decide) ?_
            refine bn_t (by decide) ?_
            refine bn_t (by decide) ?_
            exact hgo
          · refine br_f (by rw [hka']; decide) ?_
            refine bn_t (by decide) ?_
            refine bn_f rfl ?_
            refine Exists.intro a ⟨by omega, rfl, ?_⟩
            refine bn_t (by rw [hka']; decide) ?_
            exact hgo
          · refine br_t hka' ?_
            exact hgo
          · refine br_f (by rw [hka']; decide) ?_
            refine bn_t (by decide) ?_
            refine bn_t (by decide) ?_
            exact hgo
        · rcases (show z = 1 ∨ z = 2 ∨ z = 3 ∨ z = 4 ∨ z = 5 by omega) with rfl | rfl | rfl | rfl | rfl
          · refine br_f (by rw [hka']; decide) ?_
            refine bn_f rfl ?_
            refine Exists.intro a ⟨by omega, rfl, ?_⟩
            refine br_f (by rw [hka']; decide) ?_
            refine bn_t (by decide) ?_
            exact hgo
          · refine br_f (by rw [hka']; decide) ?_
            refine bn_t (by decide) ?_
            refine bn_t (by decide) ?_
            exact hgo
          · refine br_f (by rw [hka']; decide) ?_
            refine bn_t (by decide) ?_
            refine bn_f rfl ?_
            refine Exists.intro a ⟨by omega, rfl, ?_⟩
            refine bn_f hka' ?_
            exact hgo
          · refine br_f (by rw [hka']; decide) ?_
            refine bn_t (by decide) ?_
            refine bn_t (by decide) ?_
            exact hgo
          · refine br_t hka' ?_
            exact hgo
      cases hio : isOfB (eK S a) z with
      | false =>
        rw [if_pos rfl]
        refine ⟨_, am_ev 4 (some .int) false [64] ok_M_mark am_mP_157 (by rw [am_m_157]) (by rw [am_m_157]) (fun h => by cases h) (Nat.le_of_ble_eq_true rfl) (fun Go hG => ?_), RM_fnd hx (by decide)⟩
        refine key Go _ _ hG ?_
        rw [hio]
        refine hG 200 _ _ _ _ _ _ ?_
        refine bn_f rfl ?_
        refine Exists.intro 0 (Exists.intro _ (Exists.intro _ ⟨by decide, c_M_found I F S.2.2.2.2.2.2.1 S.2.2.2.2.2.2.2 3 (by decide), ?_⟩))
        exact ⟨rfl, rfl, rfl, rfl⟩
      | true =>
        rw [if_neg (by decide)]
        rcases (show z = 1 ∨ z = 2 ∨ z = 3 ∨ z = 4 ∨ z = 5 by omega) with rfl | rfl | rfl | rfl | rfl
        · refine ⟨_, am_ev 4 (some .int) false [64] ok_M_mark am_mP_157 (by rw [am_m_157]) (by rw [am_m_157]) (fun h => by cases h) (Nat.le_of_ble_eq_true rfl) (fun Go hG => ?_), RM_of hx⟩
          refine key Go _ _ hG ?_
          rw [hio]
          refine hG 200 _ _ _ _ _ _ ?_
          refine bn_t (by decide) ?_
          refine And.intro (fun h => absurd h (by decide)) (And.intro (fun h => ?_) (And.intro (fun h => absurd h (by decide)) (And.intro (fun h => absurd h (by decide)) (And.intro (fun h => absurd h (by decide)) (trivial)))))
          refine Exists.intro a ⟨by omega, rfl, ?_⟩
          refine Exists.intro 1 (Exists.intro _ (Exists.intro _ ⟨by decide, c_M_unlikeBall_true _ _, ?_⟩))
          exact ⟨by rw [hka]; rfl, rfl, rfl, rfl⟩
        · refine ⟨_, am_ev 4 (some .int) false [64] ok_M_mark am_mP_157 (by rw [am_m_157]) (by rw [am_m_157]) (fun h => by cases h) (Nat.le_of_ble_eq_true rfl) (fun Go hG => ?_), RM_of hx⟩
          refine key Go _ _ hG ?_
          rw [hio]
          refine hG 200 _ _ _ _ _ _ ?_
          refine bn_t (by decide) ?_
          refine And.intro (fun h => absurd h (by decide)) (And.intro (fun h => absurd h (by decide)) (And.intro (fun h => ?_) (And.intro (fun h => absurd h (by decide)) (And.intro (fun h => absurd h (by decide)) (trivial)))))
          refine Exists.intro a ⟨by omega, rfl, ?_⟩
          refine And.intro (by decide) ?_
          exact ⟨by rw [hw2 a ha]; rfl, rfl, rfl, rfl⟩
        · refine ⟨_, am_ev 4 (some .int) false [64] ok_M_mark am_mP_157 (by rw [am_m_157]) (by rw [am_m_157]) (fun h => by cases h) (Nat.le_of_ble_eq_true rfl) (fun Go hG => ?_), RM_of hx⟩
          refine key Go _ _ hG ?_
          rw [hio]
          refine hG 200 _ _ _ _ _ _ ?_
          refine bn_t (by decide) ?_
          refine And.intro (fun h => absurd h (by decide)) (And.intro (fun h => absurd h (by decide)) (And.intro (fun h => absurd h (by decide)) (And.intro (fun h => ?_) (And.intro (fun h => absurd h (by decide)) (trivial)))))
          refine Exists.intro a ⟨by omega, rfl, ?_⟩
          refine Exists.intro 1 (Exists.intro _ (Exists.intro _ ⟨by decide, c_M_unlikeBall_false _ _, ?_⟩))
          exact ⟨by rw [hka]; rfl, rfl, rfl, rfl⟩
        · have hc3 := c_M_torchesAhead I F S.2.2.2.2.2.2.1 S.2.2.2.2.2.2.2 (eN S) a hI hn ha
          rw [show cntG (trB (F 2) (F 1) a) (eN S) = cntG (trB (gN (eK S)) (gN (duE (eE S))) a) (eN S) from cntG_congr (fun k q => by unfold trB; rw [(hk k q).1, hw2 k q, hw2 a ha]; rfl)] at hc3
          refine ⟨_, am_ev 4 (some .int) false [64] ok_M_mark am_mP_157 (by rw [am_m_157]) (by rw [am_m_157]) (fun h => by cases h) (Nat.le_of_ble_eq_true rfl) (fun Go hG => ?_), RM_of hx⟩
          refine key Go _ _ hG ?_
          rw [hio]
          refine hG 200 _ _ _ _ _ _ ?_
          refine bn_t (by decide) ?_
          refine And.intro (fun h => absurd h (by decide)) (And.intro (fun h => absurd h (by decide)) (And.intro (fun h => absurd h (by decide)) (And.intro (fun h => absurd h (by decide)) (And.intro (fun h => ?_) (trivial)))))
          refine Exists.intro 0 (Exists.intro _ (Exists.intro _ ⟨by decide, hc3, ?_⟩))
          exact ⟨rfl, rfl, rfl, rfl⟩
        · have hc3 := c_M_thingsBehind I F S.2.2.2.2.2.2.1 S.2.2.2.2.2.2.2 (eN S) a hI hn ha
          rw [show cntG (bhB (F 1) a) (eN S) = cntG (bhB (gN (duE (eE S))) a) (eN S) from cntG_congr (fun k q => by unfold bhB; rw [hw2 k q, hw2 a ha]; rfl)] at hc3
          refine ⟨_, am_ev 4 (some .int) false [64] ok_M_mark am_mP_157 (by rw [am_m_157]) (by rw [am_m_157]) (fun h => by cases h) (Nat.le_of_ble_eq_true rfl) (fun Go hG => ?_), RM_of hx⟩
          refine key Go _ _ hG ?_
          rw [hio]
          refine hG 200 _ _ _ _ _ _ ?_
          refine bn_t (by decide) ?_
          refine And.intro (fun h => ?_) (And.intro (fun h => absurd h (by decide)) (And.intro (fun h => absurd h (by decide)) (And.intro (fun h => absurd h (by decide)) (And.intro (fun h => absurd h (by decide)) trivial))))
          refine Exists.intro 0 (Exists.intro _ (Exists.intro _ ⟨by decide, hc3, ?_⟩))
          exact ⟨rfl, rfl, rfl, rfl⟩
end
