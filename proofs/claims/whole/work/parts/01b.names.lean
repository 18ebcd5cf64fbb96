/-! ===== names, by program (wip/whole/gen.py) out of the Statement ===== -/
def am_T0 : u_T := fun k => match k with
  | 0 => ("ThingsThrown", "rows", "[LThingsThrown$Sheet;", true)
  | 1 => ("ThingsThrown", "texts", "[LThingsThrown$Sheet;", true)
  | 2 => ("ThingsThrown", "telling", "LThingsThrown$Telling;", true)
  | 3 => ("ThingsThrown", "troupe", "LThingsThrown$Troupe;", true)
  | 4 => ("ThingsThrown", "evening", "LThingsThrown$Evening;", true)
  | 5 => ("ThingsThrown", "kept", "[LThingsThrown$Evening;", true)
  | 6 => ("ThingsThrown", "outlook", "LThingsThrown$Outlook;", true)
  | 7 => ("ThingsThrown", "chances", "LThingsThrown$Chances;", true)
  | 8 => ("ThingsThrown", "findingsMade", "[I", true)
  | 9 => ("ThingsThrown", "latestFinding", "I", false)
  | 10 => ("ThingsThrown", "askedLast", "I", false)
  | 11 => ("ThingsThrown", "upperLast", "J", false)
  | _ => ("ThingsThrown", "lowerLast", "J", false)
def am_Y0 : Nat → FieldType := fun k => match k with
  | 0 => .array (.object "ThingsThrown$Sheet")
  | 1 => .array (.object "ThingsThrown$Sheet")
  | 2 => .object "ThingsThrown$Telling"
  | 3 => .object "ThingsThrown$Troupe"
  | 4 => .object "ThingsThrown$Evening"
  | 5 => .array (.object "ThingsThrown$Evening")
  | 6 => .object "ThingsThrown$Outlook"
  | 7 => .object "ThingsThrown$Chances"
  | 8 => .array .int
  | 9 => .int
  | 10 => .int
  | 11 => .long
  | _ => .long
def am_T1 : u_T := fun k => match k with
  | _ => ("ThingsThrown$Chances", "troupe", "LThingsThrown$Troupe;", true)
def am_Y1 : Nat → FieldType := fun k => match k with
  | _ => .object "ThingsThrown$Troupe"
def am_T2 : u_T := fun k => match k with
  | 0 => ("ThingsThrown$Evening", "dues", "I", false)
  | 1 => ("ThingsThrown$Evening", "beat", "I", false)
  | 2 => ("ThingsThrown$Evening", "deeds", "I", false)
  | 3 => ("ThingsThrown$Evening", "timesThrown", "[I", true)
  | 4 => ("ThingsThrown$Evening", "duesAhead", "[I", true)
  | 5 => ("ThingsThrown$Evening", "thingThrown", "[I", true)
  | _ => ("ThingsThrown$Evening", "beatsTaken", "[I", true)
def am_Y2 : Nat → FieldType := fun k => match k with
  | 0 => .int
  | 1 => .int
  | 2 => .int
  | 3 => .array .int
  | 4 => .array .int
  | 5 => .array .int
  | _ => .array .int
def am_T3 : u_T := fun k => match k with
  | 0 => ("ThingsThrown$Outlook", "troupe", "LThingsThrown$Troupe;", true)
  | 1 => ("ThingsThrown$Outlook", "duesThen", "I", false)
  | 2 => ("ThingsThrown$Outlook", "path", "[I", true)
  | _ => ("ThingsThrown$Outlook", "firstHeights", "I", false)
def am_Y3 : Nat → FieldType := fun k => match k with
  | 0 => .object "ThingsThrown$Troupe"
  | 1 => .int
  | 2 => .array .int
  | _ => .int
def am_T4 : u_T := fun k => match k with
  | 0 => ("ThingsThrown$Sheet", "cells", "[I", true)
  | _ => ("ThingsThrown$Sheet", "size", "I", false)
def am_Y4 : Nat → FieldType := fun k => match k with
  | 0 => .array .int
  | _ => .int
def am_T5 : u_T := fun k => match k with
  | 0 => ("ThingsThrown$Telling", "troupe", "LThingsThrown$Troupe;", true)
  | _ => ("ThingsThrown$Telling", "dues", "I", false)
def am_Y5 : Nat → FieldType := fun k => match k with
  | 0 => .object "ThingsThrown$Troupe"
  | _ => .int
def am_T6 : u_T := fun k => match k with
  | 0 => ("ThingsThrown$Troupe", "size", "I", false)
  | _ => ("ThingsThrown$Troupe", "kind", "[I", true)
def am_Y6 : Nat → FieldType := fun k => match k with
  | 0 => .int
  | _ => .array .int
def am_T7 : u_T := fun k => match k with
  | 0 => ("ThingsThrownModel", "w", "[I", true)
  | 1 => ("ThingsThrownModel", "kind", "[I", true)
  | 2 => ("ThingsThrownModel", "things", "I", false)
  | 3 => ("ThingsThrownModel", "keptDeeds", "[I", true)
  | 4 => ("ThingsThrownModel", "rows", "[I", true)
  | 5 => ("ThingsThrownModel", "sizes", "[I", true)
  | 6 => ("ThingsThrownModel", "texts", "[B", true)
  | 7 => ("ThingsThrownModel", "lengths", "[I", true)
  | 8 => ("ThingsThrownModel", "asked", "I", false)
  | 9 => ("ThingsThrownModel", "upper", "J", false)
  | 10 => ("ThingsThrownModel", "lower", "J", false)
  | 11 => ("ThingsThrownModel", "finding", "I", false)
  | 12 => ("ThingsThrownModel", "findings", "[I", true)
  | 13 => ("ThingsThrownModel", "readKind", "[I", true)
  | 14 => ("ThingsThrownModel", "readDue", "[I", true)
  | 15 => ("ThingsThrownModel", "readMany", "I", false)
  | _ => ("ThingsThrownModel", "worth", "[I", true)
def am_Y7 : Nat → FieldType := fun k => match k with
  | 0 => .array .int
  | 1 => .array .int
  | 2 => .int
  | 3 => .array .int
  | 4 => .array .int
  | 5 => .array .int
  | 6 => .array .byte
  | 7 => .array .int
  | 8 => .int
  | 9 => .long
  | 10 => .long
  | 11 => .int
  | 12 => .array .int
  | 13 => .array .int
  | 14 => .array .int
  | 15 => .int
  | _ => .array .int
abbrev am_cl : List vw_C := [("ThingsThrown", am_T0, 13), ("ThingsThrown$Chances", am_T1, 1), ("ThingsThrown$Evening", am_T2, 7), ("ThingsThrown$Outlook", am_T3, 4), ("ThingsThrown$Sheet", am_T4, 2), ("ThingsThrown$Telling", am_T5, 2), ("ThingsThrown$Troupe", am_T6, 2), ("ThingsThrownModel", am_T7, 17)]
def am_Y : Nat → Nat → FieldType := fun c => match c with
  | 0 => am_Y0
  | 1 => am_Y1
  | 2 => am_Y2
  | 3 => am_Y3
  | 4 => am_Y4
  | 5 => am_Y5
  | 6 => am_Y6
  | _ => am_Y7
def am_F : Nat → Nat → Bool := fun c k => match c with
  | 0 => (am_T0 k).2.2.2
  | 1 => (am_T1 k).2.2.2
  | 2 => (am_T2 k).2.2.2
  | 3 => (am_T3 k).2.2.2
  | 4 => (am_T4 k).2.2.2
  | 5 => (am_T5 k).2.2.2
  | 6 => (am_T6 k).2.2.2
  | _ => (am_T7 k).2.2.2
def am_dv : Nat → List Value := fun c => match c with
  | 0 => [.null, .null, .null, .null, .null, .null, .null, .null, .null, .int 0, .int 0, .long 0, .long 0]
  | 1 => [.null]
  | 2 => [.int 0, .int 0, .int 0, .null, .null, .null, .null]
  | 3 => [.null, .int 0, .null, .int 0]
  | 4 => [.null, .int 0]
  | 5 => [.null, .int 0]
  | 6 => [.int 0, .null]
  | _ => [.null, .null, .int 0, .null, .null, .null, .null, .null, .int 0, .long 0, .long 0, .int 0, .null, .null, .null, .int 0, .null]
def am_own : Nat → String := fun c => match c with
  | 0 => "ThingsThrown"
  | 1 => "ThingsThrown$Chances"
  | 2 => "ThingsThrown$Evening"
  | 3 => "ThingsThrown$Outlook"
  | 4 => "ThingsThrown$Sheet"
  | 5 => "ThingsThrown$Telling"
  | 6 => "ThingsThrown$Troupe"
  | 7 => "ThingsThrownModel"
  | 8 => "ThingsThrown$Kinds"
  | 9 => "java/lang/Integer"
  | _ => "ThingsThrownLaw"
abbrev Am_M : Type := MethodName × ByteArray × Nat × Option FieldType × Nat
/-- the methods: name, bytes, locals, answer, the number of their class -/
def am_ml0 : List Am_M := [(⟨"ThingsThrown", "<init>", "()V"⟩, prog_1_method_1_code, 2, none, 0),
  (⟨"ThingsThrown$Telling", "<init>", "()V"⟩, prog_7_method_1_code, 1, none, 5),
  (⟨"ThingsThrown$Troupe", "<init>", "()V"⟩, prog_8_method_1_code, 1, none, 6),
  (⟨"ThingsThrown$Evening", "<init>", "()V"⟩, prog_3_method_1_code, 1, none, 2),
  (⟨"ThingsThrown$Outlook", "<init>", "(LThingsThrown$Troupe;)V"⟩, prog_5_method_1_code, 2, none, 3),
  (⟨"ThingsThrown$Chances", "<init>", "(LThingsThrown$Troupe;)V"⟩, prog_2_method_1_code, 2, none, 1),
  (⟨"ThingsThrown$Sheet", "<init>", "([I)V"⟩, prog_6_method_1_code, 2, none, 4),
  (⟨"ThingsThrown$Evening", "forget", "()V"⟩, prog_3_method_3_code, 1, none, 2),
  (⟨"ThingsThrown", "row", "(II)I"⟩, prog_1_method_2_code, 3, some .int, 0),
  (⟨"ThingsThrown", "isRow", "(I)Z"⟩, prog_1_method_41_code, 1, some .boolean, 0),
  (⟨"ThingsThrown", "found", "(I)I"⟩, prog_1_method_47_code, 2, some .int, 0),
  (⟨"ThingsThrown$Sheet", "begin", "(II)V"⟩, prog_6_method_2_code, 4, none, 4),
  (⟨"ThingsThrown", "lay", "(III)I"⟩, prog_1_method_3_code, 6, some .int, 0),
  (⟨"ThingsThrown", "refusalOfPlace", "(II)I"⟩, prog_1_method_49_code, 4, some .int, 0),
  (⟨"ThingsThrown", "refusalOfRow", "(I)I"⟩, prog_1_method_48_code, 2, some .int, 0),
  (⟨"ThingsThrown$Sheet", "isMissing", "()Z"⟩, prog_6_method_3_code, 1, some .boolean, 4),
  (⟨"ThingsThrown$Sheet", "has", "(I)Z"⟩, prog_6_method_4_code, 2, some .boolean, 4),
  (⟨"ThingsThrown", "tell", "(I)I"⟩, prog_1_method_54_code, 2, some .int, 0),
  (⟨"ThingsThrown", "at", "(II)I"⟩, prog_1_method_4_code, 4, some .int, 0),
  (⟨"ThingsThrown", "tear", "(I)I"⟩, prog_1_method_5_code, 3, some .int, 0),
  (⟨"ThingsThrown", "copy", "(IIIII)I"⟩, prog_1_method_6_code, 6, some .int, 0),
  (⟨"ThingsThrown$Sheet", "hasPart", "(II)Z"⟩, prog_6_method_5_code, 3, some .boolean, 4),
  (⟨"ThingsThrown", "mean", "(I)I"⟩, prog_1_method_7_code, 7, some .int, 0),
  (⟨"ThingsThrown", "text", "(II)I"⟩, prog_1_method_8_code, 3, some .int, 0),
  (⟨"ThingsThrown", "isText", "(I)Z"⟩, prog_1_method_42_code, 1, some .boolean, 0),
  (⟨"ThingsThrown", "put", "(III)I"⟩, prog_1_method_9_code, 6, some .int, 0),
  (⟨"ThingsThrown", "refusalOfText", "(I)I"⟩, prog_1_method_50_code, 2, some .int, 0),
  (⟨"ThingsThrown", "fault", "(I)I"⟩, prog_1_method_10_code, 3, some .int, 0),
  (⟨"ThingsThrown$Telling", "read", "(LThingsThrown$Sheet;)I"⟩, prog_7_method_2_code, 4, some .int, 5),
  (⟨"ThingsThrown$Troupe", "begin", "()V"⟩, prog_8_method_5_code, 1, none, 6)]
def am_ml1 : List Am_M := [(⟨"ThingsThrown$Kinds", "byLetter", "(I)I"⟩, prog_4_method_2_code, 2, some .int, 8),
  (⟨"ThingsThrown$Telling", "isFreeFigure", "(I)Z"⟩, prog_7_method_3_code, 3, some .boolean, 5),
  (⟨"ThingsThrown$Troupe", "sky", "(I)I"⟩, prog_8_method_8_code, 4, some .int, 6),
  (⟨"ThingsThrown$Troupe", "due", "(II)I"⟩, prog_8_method_2_code, 2, some .int, 6),
  (⟨"ThingsThrown$Troupe", "with", "(III)I"⟩, prog_8_method_3_code, 3, some .int, 6),
  (⟨"ThingsThrown$Troupe", "add", "(I)V"⟩, prog_8_method_6_code, 2, none, 6),
  (⟨"ThingsThrown", "things", "(I)I"⟩, prog_1_method_11_code, 4, some .int, 0),
  (⟨"ThingsThrown$Troupe", "takeFrom", "(LThingsThrown$Troupe;)V"⟩, prog_8_method_7_code, 2, none, 6),
  (⟨"ThingsThrown$Evening", "begin", "(I)V"⟩, prog_3_method_2_code, 3, none, 2),
  (⟨"ThingsThrown", "thing", "(II)I"⟩, prog_1_method_12_code, 3, some .int, 0),
  (⟨"ThingsThrown", "isThing", "(I)Z"⟩, prog_1_method_46_code, 2, some .boolean, 0),
  (⟨"ThingsThrown", "ofThing", "(II)I"⟩, prog_1_method_57_code, 3, some .int, 0),
  (⟨"ThingsThrown$Kinds", "heightsOf", "(I)I"⟩, prog_4_method_5_code, 1, some .int, 8),
  (⟨"ThingsThrown", "mark", "(II)I"⟩, prog_1_method_13_code, 4, some .int, 0),
  (⟨"ThingsThrown$Kinds", "isOf", "(II)Z"⟩, prog_4_method_3_code, 2, some .boolean, 8),
  (⟨"ThingsThrown$Kinds", "heightsLater", "(I)I"⟩, prog_4_method_6_code, 3, some .int, 8),
  (⟨"ThingsThrown$Kinds", "flight", "(II)I"⟩, prog_4_method_4_code, 2, some .int, 8),
  (⟨"ThingsThrown$Kinds", "heightsSooner", "(I)I"⟩, prog_4_method_7_code, 3, some .int, 8),
  (⟨"ThingsThrown$Troupe", "torchesAhead", "(II)I"⟩, prog_8_method_12_code, 5, some .int, 6),
  (⟨"ThingsThrown$Troupe", "thingsBehind", "(II)I"⟩, prog_8_method_13_code, 5, some .int, 6),
  (⟨"ThingsThrown", "toss", "(I)I"⟩, prog_1_method_14_code, 2, some .int, 0),
  (⟨"ThingsThrown", "isHeight", "(I)Z"⟩, prog_1_method_43_code, 1, some .boolean, 0),
  (⟨"ThingsThrown$Troupe", "mayGo", "(II)Z"⟩, prog_8_method_17_code, 4, some .boolean, 6),
  (⟨"ThingsThrown$Troupe", "dueNow", "(I)I"⟩, prog_8_method_9_code, 3, some .int, 6),
  (⟨"ThingsThrown$Troupe", "isFree", "(II)Z"⟩, prog_8_method_19_code, 2, some .boolean, 6),
  (⟨"ThingsThrown$Evening", "isFull", "()Z"⟩, prog_3_method_5_code, 1, some .boolean, 2),
  (⟨"ThingsThrown", "enterThrow", "(I)V"⟩, prog_1_method_61_code, 3, none, 0),
  (⟨"ThingsThrown$Troupe", "thrown", "(II)I"⟩, prog_8_method_20_code, 4, some .int, 6),
  (⟨"ThingsThrown$Troupe", "later", "(II)I"⟩, prog_8_method_15_code, 3, some .int, 6),
  (⟨"ThingsThrown$Evening", "enter", "(III)V"⟩, prog_3_method_6_code, 4, none, 2)]
def am_ml2 : List Am_M := [(⟨"ThingsThrown$Evening", "isForgotten", "()Z"⟩, prog_3_method_4_code, 1, some .boolean, 2),
  (⟨"ThingsThrown", "skyNow", "()I"⟩, prog_1_method_58_code, 1, some .int, 0),
  (⟨"ThingsThrown", "rest", "()I"⟩, prog_1_method_15_code, 1, some .int, 0),
  (⟨"ThingsThrown", "enterRest", "()V"⟩, prog_1_method_62_code, 1, none, 0),
  (⟨"ThingsThrown", "exchange", "(II)I"⟩, prog_1_method_16_code, 3, some .int, 0),
  (⟨"ThingsThrown", "enterExchange", "(II)V"⟩, prog_1_method_63_code, 3, none, 0),
  (⟨"ThingsThrown$Troupe", "exchanged", "(III)I"⟩, prog_8_method_4_code, 3, some .int, 6),
  (⟨"ThingsThrown", "undo", "(I)I"⟩, prog_1_method_17_code, 3, some .int, 0),
  (⟨"ThingsThrown$Evening", "takeBack", "(I)V"⟩, prog_3_method_7_code, 3, none, 2),
  (⟨"ThingsThrown", "keep", "(I)I"⟩, prog_1_method_18_code, 2, some .int, 0),
  (⟨"ThingsThrown", "isPlaceKept", "(I)Z"⟩, prog_1_method_45_code, 1, some .boolean, 0),
  (⟨"ThingsThrown$Evening", "takeFrom", "(LThingsThrown$Evening;)V"⟩, prog_3_method_9_code, 2, none, 2),
  (⟨"ThingsThrown", "on", "(I)I"⟩, prog_1_method_19_code, 2, some .int, 0),
  (⟨"ThingsThrown", "lands", "(II)I"⟩, prog_1_method_20_code, 3, some .int, 0),
  (⟨"ThingsThrown", "may", "()I"⟩, prog_1_method_21_code, 2, some .int, 0),
  (⟨"ThingsThrown$Troupe", "heightsNow", "(I)I"⟩, prog_8_method_18_code, 6, some .int, 6),
  (⟨"ThingsThrown", "run", "(I)I"⟩, prog_1_method_22_code, 4, some .int, 0),
  (⟨"ThingsThrown", "refusalOfThrows", "(III)I"⟩, prog_1_method_51_code, 7, some .int, 0),
  (⟨"ThingsThrown$Outlook", "throwsMade", "(ILThingsThrown$Sheet;)I"⟩, prog_5_method_2_code, 4, some .int, 3),
  (⟨"ThingsThrown$Troupe", "rested", "(I)I"⟩, prog_8_method_16_code, 2, some .int, 6),
  (⟨"ThingsThrown$Troupe", "restsAhead", "(I)I"⟩, prog_8_method_14_code, 4, some .int, 6),
  (⟨"ThingsThrown", "rounds", "(I)I"⟩, prog_1_method_23_code, 3, some .int, 0),
  (⟨"ThingsThrown$Outlook", "roundsBack", "(ILThingsThrown$Sheet;)I"⟩, prog_5_method_3_code, 5, some .int, 3),
  (⟨"ThingsThrown$Outlook", "comesToDues", "(II)Z"⟩, prog_5_method_4_code, 5, some .boolean, 3),
  (⟨"ThingsThrown", "fewest", "(II)I"⟩, prog_1_method_24_code, 4, some .int, 0),
  (⟨"ThingsThrown", "isSky", "(I)Z"⟩, prog_1_method_44_code, 1, some .boolean, 0),
  (⟨"ThingsThrown$Outlook", "fewestTo", "(II)I"⟩, prog_5_method_6_code, 4, some .int, 3),
  (⟨"java/lang/Integer", "bitCount", "(I)I"⟩, prog_11_method_49_code, 1, some .int, 9),
  (⟨"ThingsThrown$Outlook", "leadsTo", "(IIII)Z"⟩, prog_5_method_7_code, 8, some .boolean, 3),
  (⟨"ThingsThrown$Outlook", "comesToSky", "(II)Z"⟩, prog_5_method_5_code, 6, some .boolean, 3)]
def am_ml3 : List Am_M := [(⟨"ThingsThrown", "ways", "(I)I"⟩, prog_1_method_25_code, 2, some .int, 0),
  (⟨"ThingsThrown$Outlook", "waysBack", "(II)J"⟩, prog_5_method_8_code, 11, some .long, 3),
  (⟨"ThingsThrown$Outlook", "waysTo", "(III)J"⟩, prog_5_method_9_code, 9, some .long, 3),
  (⟨"ThingsThrown", "tellRatio", "(JJ)I"⟩, prog_1_method_55_code, 7, some .int, 0),
  (⟨"ThingsThrown", "sharedDivisor", "(JJ)J"⟩, prog_1_method_56_code, 11, some .long, 0),
  (⟨"ThingsThrown", "height", "(I)I"⟩, prog_1_method_26_code, 2, some .int, 0),
  (⟨"ThingsThrown$Outlook", "heightsTo", "(II)I"⟩, prog_5_method_10_code, 6, some .int, 3),
  (⟨"ThingsThrown", "kinds", "(II)I"⟩, prog_1_method_27_code, 4, some .int, 0),
  (⟨"ThingsThrown", "refusalOfPairs", "(II)I"⟩, prog_1_method_53_code, 7, some .int, 0),
  (⟨"ThingsThrown$Kinds", "fitting", "(LThingsThrown$Sheet;)I"⟩, prog_4_method_8_code, 3, some .int, 8),
  (⟨"ThingsThrown$Kinds", "fits", "(ILThingsThrown$Sheet;)Z"⟩, prog_4_method_9_code, 3, some .boolean, 8),
  (⟨"ThingsThrown", "next", "(II)I"⟩, prog_1_method_28_code, 6, some .int, 0),
  (⟨"ThingsThrown$Kinds", "heightToTry", "(I)I"⟩, prog_4_method_10_code, 3, some .int, 8),
  (⟨"ThingsThrown$Kinds", "greatestPart", "(II)I"⟩, prog_4_method_11_code, 4, some .int, 8),
  (⟨"ThingsThrown$Kinds", "alike", "(III)I"⟩, prog_4_method_12_code, 5, some .int, 8),
  (⟨"ThingsThrown", "duel", "(I)I"⟩, prog_1_method_29_code, 2, some .int, 0),
  (⟨"ThingsThrown$Outlook", "bestByTurns", "(II)I"⟩, prog_5_method_11_code, 3, some .int, 3),
  (⟨"ThingsThrown$Outlook", "bestFrom", "(II)I"⟩, prog_5_method_12_code, 9, some .int, 3),
  (⟨"ThingsThrown$Troupe", "dueTogether", "(I)I"⟩, prog_8_method_10_code, 4, some .int, 6),
  (⟨"ThingsThrown", "odds", "(II)I"⟩, prog_1_method_30_code, 6, some .int, 0),
  (⟨"ThingsThrown", "refusalOfChances", "(II)I"⟩, prog_1_method_52_code, 3, some .int, 0),
  (⟨"ThingsThrown$Chances", "weightOfAll", "(ILThingsThrown$Sheet;I)J"⟩, prog_2_method_3_code, 4, some .long, 1),
  (⟨"ThingsThrown$Chances", "weightFrom", "(ILThingsThrown$Sheet;IIZ)J"⟩, prog_2_method_5_code, 13, some .long, 1),
  (⟨"ThingsThrown$Chances", "weight", "(I)J"⟩, prog_2_method_2_code, 4, some .long, 1),
  (⟨"ThingsThrown", "mid", "(II)I"⟩, prog_1_method_31_code, 6, some .int, 0),
  (⟨"ThingsThrown$Chances", "weightOfMade", "(ILThingsThrown$Sheet;I)J"⟩, prog_2_method_4_code, 4, some .long, 1),
  (⟨"ThingsThrown", "lots", "(II)I"⟩, prog_1_method_32_code, 6, some .int, 0),
  (⟨"ThingsThrown", "enterByLot", "(I)V"⟩, prog_1_method_64_code, 3, none, 0),
  (⟨"ThingsThrown", "enterThrowFrom", "(I)V"⟩, prog_1_method_65_code, 4, none, 0),
  (⟨"ThingsThrown", "asked", "()I"⟩, prog_1_method_33_code, 1, some .int, 0)]
def am_ml4 : List Am_M := [(⟨"ThingsThrown", "upper", "()J"⟩, prog_1_method_34_code, 1, some .long, 0),
  (⟨"ThingsThrown", "lower", "()J"⟩, prog_1_method_35_code, 1, some .long, 0),
  (⟨"ThingsThrown", "count", "(I)I"⟩, prog_1_method_36_code, 2, some .int, 0),
  (⟨"ThingsThrown$Evening", "throwsMade", "()I"⟩, prog_3_method_8_code, 3, some .int, 2),
  (⟨"ThingsThrown$Troupe", "howManyOf", "(I)I"⟩, prog_8_method_11_code, 4, some .int, 6),
  (⟨"ThingsThrown", "sheetsThere", "([LThingsThrown$Sheet;)I"⟩, prog_1_method_59_code, 3, some .int, 0),
  (⟨"ThingsThrown", "skiesKept", "()I"⟩, prog_1_method_60_code, 3, some .int, 0),
  (⟨"ThingsThrown", "finding", "()I"⟩, prog_1_method_37_code, 1, some .int, 0),
  (⟨"ThingsThrown", "findings", "(I)I"⟩, prog_1_method_38_code, 2, some .int, 0),
  (⟨"ThingsThrown", "digest", "()J"⟩, prog_1_method_39_code, 5, some .long, 0),
  (⟨"ThingsThrown", "digestOfSheets", "(J[LThingsThrown$Sheet;)J"⟩, prog_1_method_40_code, 7, some .long, 0),
  (⟨"ThingsThrownModel", "<init>", "()V"⟩, prog_10_method_1_code, 2, none, 7),
  (⟨"ThingsThrownModel", "row", "(II)I"⟩, prog_10_method_9_code, 4, some .int, 7),
  (⟨"ThingsThrownModel", "isRow", "(I)Z"⟩, prog_10_method_8_code, 1, some .boolean, 7),
  (⟨"ThingsThrownModel", "in", "(III)Z"⟩, prog_10_method_3_code, 3, some .boolean, 7),
  (⟨"ThingsThrownModel", "found", "(I)I"⟩, prog_10_method_5_code, 2, some .int, 7),
  (⟨"ThingsThrownModel", "lay", "(III)I"⟩, prog_10_method_11_code, 6, some .int, 7),
  (⟨"ThingsThrownModel", "wrongPlace", "(II)I"⟩, prog_10_method_10_code, 3, some .int, 7),
  (⟨"ThingsThrownModel", "tell", "(I)I"⟩, prog_10_method_6_code, 2, some .int, 7),
  (⟨"ThingsThrownModel", "at", "(II)I"⟩, prog_10_method_12_code, 4, some .int, 7),
  (⟨"ThingsThrownModel", "tear", "(I)I"⟩, prog_10_method_13_code, 2, some .int, 7),
  (⟨"ThingsThrownModel", "copy", "(IIIII)I"⟩, prog_10_method_15_code, 9, some .int, 7),
  (⟨"ThingsThrownModel", "isPart", "(III)Z"⟩, prog_10_method_14_code, 4, some .boolean, 7),
  (⟨"ThingsThrownModel", "mean", "(I)I"⟩, prog_10_method_16_code, 5, some .int, 7),
  (⟨"ThingsThrownModel", "text", "(II)I"⟩, prog_10_method_18_code, 4, some .int, 7),
  (⟨"ThingsThrownModel", "isText", "(I)Z"⟩, prog_10_method_17_code, 1, some .boolean, 7),
  (⟨"ThingsThrownModel", "put", "(III)I"⟩, prog_10_method_19_code, 5, some .int, 7),
  (⟨"ThingsThrownModel", "fault", "(I)I"⟩, prog_10_method_24_code, 2, some .int, 7),
  (⟨"ThingsThrownModel", "readText", "(I)I"⟩, prog_10_method_23_code, 5, some .int, 7),
  (⟨"ThingsThrownModel", "byteAt", "(II)I"⟩, prog_10_method_21_code, 3, some .int, 7)]
def am_ml5 : List Am_M := [(⟨"ThingsThrownModel", "kindOf", "(I)I"⟩, prog_10_method_20_code, 1, some .int, 7),
  (⟨"ThingsThrownModel", "isDueRead", "(I)Z"⟩, prog_10_method_22_code, 4, some .boolean, 7),
  (⟨"ThingsThrownModel", "things", "(I)I"⟩, prog_10_method_25_code, 3, some .int, 7),
  (⟨"ThingsThrownModel", "thing", "(II)I"⟩, prog_10_method_30_code, 3, some .int, 7),
  (⟨"ThingsThrownModel", "isThing", "(I)Z"⟩, prog_10_method_26_code, 2, some .boolean, 7),
  (⟨"ThingsThrownModel", "heightsOf", "(I)I"⟩, prog_10_method_29_code, 3, some .int, 7),
  (⟨"ThingsThrownModel", "landing", "(II)I"⟩, prog_10_method_28_code, 2, some .int, 7),
  (⟨"ThingsThrownModel", "mark", "(II)I"⟩, prog_10_method_34_code, 4, some .int, 7),
  (⟨"ThingsThrownModel", "unlikeBall", "(II)I"⟩, prog_10_method_31_code, 5, some .int, 7),
  (⟨"ThingsThrownModel", "torchesAhead", "(I)I"⟩, prog_10_method_32_code, 4, some .int, 7),
  (⟨"ThingsThrownModel", "thingsBehind", "(I)I"⟩, prog_10_method_33_code, 4, some .int, 7),
  (⟨"ThingsThrownModel", "toss", "(I)I"⟩, prog_10_method_45_code, 2, some .int, 7),
  (⟨"ThingsThrownModel", "isHeight", "(I)Z"⟩, prog_10_method_27_code, 1, some .boolean, 7),
  (⟨"ThingsThrownModel", "mayAt", "(II)Z"⟩, prog_10_method_37_code, 5, some .boolean, 7),
  (⟨"ThingsThrownModel", "dueAt", "(I)I"⟩, prog_10_method_36_code, 3, some .int, 7),
  (⟨"ThingsThrownModel", "skyAt", "(I)I"⟩, prog_10_method_35_code, 4, some .int, 7),
  (⟨"ThingsThrownModel", "has", "(II)Z"⟩, prog_10_method_4_code, 2, some .boolean, 7),
  (⟨"ThingsThrownModel", "remember", "()V"⟩, prog_10_method_44_code, 1, none, 7),
  (⟨"ThingsThrownModel", "copyRow", "(III)V"⟩, prog_10_method_7_code, 5, none, 7),
  (⟨"ThingsThrownModel", "tossAt", "(II)V"⟩, prog_10_method_40_code, 4, none, 7),
  (⟨"ThingsThrownModel", "later", "(I)V"⟩, prog_10_method_39_code, 3, none, 7),
  (⟨"ThingsThrownModel", "rest", "()I"⟩, prog_10_method_46_code, 1, some .int, 7),
  (⟨"ThingsThrownModel", "exchange", "(II)I"⟩, prog_10_method_48_code, 3, some .int, 7),
  (⟨"ThingsThrownModel", "swap", "(II)V"⟩, prog_10_method_47_code, 4, none, 7),
  (⟨"ThingsThrownModel", "undo", "(I)I"⟩, prog_10_method_49_code, 3, some .int, 7),
  (⟨"ThingsThrownModel", "keep", "(I)I"⟩, prog_10_method_50_code, 2, some .int, 7),
  (⟨"ThingsThrownModel", "on", "(I)I"⟩, prog_10_method_51_code, 2, some .int, 7),
  (⟨"ThingsThrownModel", "lands", "(II)I"⟩, prog_10_method_52_code, 3, some .int, 7),
  (⟨"ThingsThrownModel", "may", "()I"⟩, prog_10_method_53_code, 1, some .int, 7),
  (⟨"ThingsThrownModel", "heightsAt", "(I)I"⟩, prog_10_method_38_code, 4, some .int, 7)]
def am_ml6 : List Am_M := [(⟨"ThingsThrownModel", "run", "(I)I"⟩, prog_10_method_55_code, 6, some .int, 7),
  (⟨"ThingsThrownModel", "wrongHeights", "(III)I"⟩, prog_10_method_54_code, 5, some .int, 7),
  (⟨"ThingsThrownModel", "beginTry", "()V"⟩, prog_10_method_43_code, 1, none, 7),
  (⟨"ThingsThrownModel", "restsAt", "(I)V"⟩, prog_10_method_41_code, 2, none, 7),
  (⟨"ThingsThrownModel", "rounds", "(I)I"⟩, prog_10_method_57_code, 6, some .int, 7),
  (⟨"ThingsThrownModel", "isAsNow", "()Z"⟩, prog_10_method_56_code, 3, some .boolean, 7),
  (⟨"ThingsThrownModel", "fewest", "(II)I"⟩, prog_10_method_63_code, 6, some .int, 7),
  (⟨"ThingsThrownModel", "isSky", "(I)Z"⟩, prog_10_method_62_code, 1, some .boolean, 7),
  (⟨"ThingsThrownModel", "power", "(II)I"⟩, prog_10_method_58_code, 4, some .int, 7),
  (⟨"ThingsThrownModel", "canThrow", "(II)Z"⟩, prog_10_method_60_code, 5, some .boolean, 7),
  (⟨"ThingsThrownModel", "figure", "(III)I"⟩, prog_10_method_59_code, 3, some .int, 7),
  (⟨"ThingsThrownModel", "comesTo", "(I)Z"⟩, prog_10_method_61_code, 2, some .boolean, 7),
  (⟨"ThingsThrownModel", "ways", "(I)I"⟩, prog_10_method_64_code, 5, some .int, 7),
  (⟨"ThingsThrownModel", "height", "(I)I"⟩, prog_10_method_65_code, 4, some .int, 7),
  (⟨"ThingsThrownModel", "kinds", "(II)I"⟩, prog_10_method_68_code, 4, some .int, 7),
  (⟨"ThingsThrownModel", "wrongPairs", "(II)I"⟩, prog_10_method_66_code, 4, some .int, 7),
  (⟨"ThingsThrownModel", "kindsBy", "(I)I"⟩, prog_10_method_67_code, 6, some .int, 7),
  (⟨"ThingsThrownModel", "next", "(II)I"⟩, prog_10_method_70_code, 9, some .int, 7),
  (⟨"ThingsThrownModel", "greatestPart", "(II)I"⟩, prog_10_method_69_code, 6, some .int, 7),
  (⟨"ThingsThrownModel", "duel", "(I)I"⟩, prog_10_method_74_code, 4, some .int, 7),
  (⟨"ThingsThrownModel", "base", "(I)I"⟩, prog_10_method_71_code, 1, some .int, 7),
  (⟨"ThingsThrownModel", "worthOf", "(III)I"⟩, prog_10_method_73_code, 4, some .int, 7),
  (⟨"ThingsThrownModel", "sumAt", "(I)I"⟩, prog_10_method_42_code, 4, some .int, 7),
  (⟨"ThingsThrownModel", "bestOf", "(II)I"⟩, prog_10_method_72_code, 7, some .int, 7),
  (⟨"ThingsThrownModel", "odds", "(II)I"⟩, prog_10_method_80_code, 3, some .int, 7),
  (⟨"ThingsThrownModel", "chances", "(IIZ)I"⟩, prog_10_method_79_code, 11, some .int, 7),
  (⟨"ThingsThrownModel", "wrongChance", "(II)I"⟩, prog_10_method_75_code, 3, some .int, 7),
  (⟨"ThingsThrownModel", "madeWith", "(II)I"⟩, prog_10_method_76_code, 5, some .int, 7),
  (⟨"ThingsThrownModel", "chanceOf", "(III)J"⟩, prog_10_method_77_code, 7, some .long, 7),
  (⟨"ThingsThrownModel", "tellPart", "(JJ)V"⟩, prog_10_method_78_code, 11, none, 7)]
def am_ml7 : List Am_M := [(⟨"ThingsThrownModel", "mid", "(II)I"⟩, prog_10_method_81_code, 3, some .int, 7),
  (⟨"ThingsThrownModel", "lots", "(II)I"⟩, prog_10_method_83_code, 6, some .int, 7),
  (⟨"ThingsThrownModel", "doByLot", "(I)V"⟩, prog_10_method_82_code, 5, none, 7),
  (⟨"ThingsThrownModel", "asked", "()I"⟩, prog_10_method_84_code, 1, some .int, 7),
  (⟨"ThingsThrownModel", "upper", "()J"⟩, prog_10_method_85_code, 1, some .long, 7),
  (⟨"ThingsThrownModel", "lower", "()J"⟩, prog_10_method_86_code, 1, some .long, 7),
  (⟨"ThingsThrownModel", "count", "(I)I"⟩, prog_10_method_90_code, 2, some .int, 7),
  (⟨"ThingsThrownModel", "throwsMade", "()I"⟩, prog_10_method_87_code, 3, some .int, 7),
  (⟨"ThingsThrownModel", "ofKinds", "(II)I"⟩, prog_10_method_88_code, 5, some .int, 7),
  (⟨"ThingsThrownModel", "thereAre", "([II)I"⟩, prog_10_method_89_code, 4, some .int, 7),
  (⟨"ThingsThrownModel", "finding", "()I"⟩, prog_10_method_91_code, 1, some .int, 7),
  (⟨"ThingsThrownModel", "findings", "(I)I"⟩, prog_10_method_92_code, 2, some .int, 7),
  (⟨"ThingsThrownModel", "digest", "()J"⟩, prog_10_method_93_code, 5, some .long, 7)]
def am_ml : List Am_M := am_ml0 ++ (am_ml1 ++ (am_ml2 ++ (am_ml3 ++ (am_ml4 ++ (am_ml5 ++ (am_ml6 ++ (am_ml7)))))))
def am_m (i : Nat) : Am_M := (am_ml[i]?).getD (⟨"", "", ""⟩, .mk #[], 0, none, 0)
abbrev am_TB : List Cond := lw_tbl.filter goodWord
def am_nest : List Cond := [.methodLinkNest "ThingsThrown" 20 ⟨"ThingsThrown$Telling", "<init>", "()V"⟩ "ThingsThrown", .methodLinkNest "ThingsThrown$Telling" 11 ⟨"ThingsThrown$Troupe", "<init>", "()V"⟩ "ThingsThrown", .methodLinkNest "ThingsThrown" 27 ⟨"ThingsThrown$Troupe", "<init>", "()V"⟩ "ThingsThrown", .methodLinkNest "ThingsThrown" 34 ⟨"ThingsThrown$Evening", "<init>", "()V"⟩ "ThingsThrown"]
