/-! THE PROGRAM, written by wip/gen/emit.py: classes, methods, instructions of the abstract machine -/
def am_ftab : List (List Nat) := [[4, 4, 4, 4, 4, 4, 4, 4, 0], [4, 4, 4, 4, 4, 4, 0, 0, 0], [4, 4, 4], [4, 4, 0, 0, 0], [4, 4, 4, 0, 4, 4, 4, 4], [4, 4, 4, 4, 4, 4, 0, 0, 0], [4, 0, 0, 0, 0], [4, 4, 4, 0, 0, 0, 0, 0, 0, 0, 0, 3], [4], [4, 4, 4, 4, 4, 0, 0], [4, 4, 4, 4, 4, 4, 4, 4, 4, 4, 4, 4, 4, 4, 4, 4, 4, 4, 4, 0, 0], [4, 4, 4, 4, 4, 4, 4, 4, 4, 4, 4, 4, 4, 4], [0, 4, 0, 4, 0, 4, 4, 4, 4, 4, 0, 0, 0, 0, 0, 0, 0, 0, 0, 0, 0, 4, 4, 4, 4, 4, 4, 4, 4, 4, 4, 4, 4, 4, 4, 4, 4, 4, 4, 4, 0, 4, 4, 4, 4, 4, 4, 4, 4, 4, 4, 4, 4, 4, 4, 4, 0, 4, 4, 4, 0, 4, 4, 2, 4, 4, 4, 0, 4, 4, 4, 0, 4, 4, 4, 4, 0, 0, 0, 4, 4, 0, 4, 4, 4, 4, 4, 4], [4, 1]]
def ct_0 : u_T := fun k => match k with
  | 0 => ("EatenToll$Book", "told", "LEatenToll$Told;", true)
  | 1 => ("EatenToll$Book", "keeper", "LEatenToll$Keeper;", true)
  | 2 => ("EatenToll$Book", "trial", "LEatenToll$Scene;", true)
  | 3 => ("EatenToll$Book", "plate", "LEatenToll$Plate;", true)
  | 4 => ("EatenToll$Book", "entryMan", "[I", true)
  | 5 => ("EatenToll$Book", "entryGate", "[I", true)
  | 6 => ("EatenToll$Book", "entryHour", "[I", true)
  | 7 => ("EatenToll$Book", "swallowed", "[I", true)
  | _ => ("EatenToll$Book", "entries", "I", false)
def ct_1 : u_T := fun k => match k with
  | 0 => ("EatenToll$Guesser", "told", "LEatenToll$Told;", true)
  | 1 => ("EatenToll$Guesser", "keeper", "LEatenToll$Keeper;", true)
  | 2 => ("EatenToll$Guesser", "trial", "LEatenToll$Scene;", true)
  | 3 => ("EatenToll$Guesser", "plate", "LEatenToll$Plate;", true)
  | 4 => ("EatenToll$Guesser", "otherPlate", "LEatenToll$Plate;", true)
  | 5 => ("EatenToll$Guesser", "bestLaw", "[I", true)
  | 6 => ("EatenToll$Guesser", "bestGain", "I", false)
  | 7 => ("EatenToll$Guesser", "passedMen", "I", false)
  | _ => ("EatenToll$Guesser", "wentAway", "I", false)
def ct_2 : u_T := fun k => match k with
  | 0 => ("EatenToll$Keeper", "told", "LEatenToll$Told;", true)
  | 1 => ("EatenToll$Keeper", "vars", "[I", true)
  | _ => ("EatenToll$Keeper", "stack", "[I", true)
def ct_3 : u_T := fun k => match k with
  | 0 => ("EatenToll$Memory", "done", "[I", true)
  | 1 => ("EatenToll$Memory", "slots", "[I", true)
  | 2 => ("EatenToll$Memory", "first", "I", false)
  | 3 => ("EatenToll$Memory", "size", "I", false)
  | _ => ("EatenToll$Memory", "heldSlots", "I", false)
def ct_4 : u_T := fun k => match k with
  | 0 => ("EatenToll$Mouths", "told", "LEatenToll$Told;", true)
  | 1 => ("EatenToll$Mouths", "reached", "[I", true)
  | 2 => ("EatenToll$Mouths", "binRoom", "[I", true)
  | 3 => ("EatenToll$Mouths", "bins", "I", false)
  | 4 => ("EatenToll$Mouths", "stride", "[I", true)
  | 5 => ("EatenToll$Mouths", "fewest", "[I", true)
  | 6 => ("EatenToll$Mouths", "netSum", "[I", true)
  | _ => ("EatenToll$Mouths", "quits", "[I", true)
def ct_5 : u_T := fun k => match k with
  | 0 => ("EatenToll$Planner", "told", "LEatenToll$Told;", true)
  | 1 => ("EatenToll$Planner", "keeper", "LEatenToll$Keeper;", true)
  | 2 => ("EatenToll$Planner", "trial", "LEatenToll$Scene;", true)
  | 3 => ("EatenToll$Planner", "plate", "LEatenToll$Plate;", true)
  | 4 => ("EatenToll$Planner", "worth", "[I", true)
  | 5 => ("EatenToll$Planner", "asked", "[I", true)
  | 6 => ("EatenToll$Planner", "set", "I", false)
  | 7 => ("EatenToll$Planner", "gate", "I", false)
  | _ => ("EatenToll$Planner", "measure", "I", false)
def ct_6 : u_T := fun k => match k with
  | 0 => ("EatenToll$Plate", "bites", "[I", true)
  | 1 => ("EatenToll$Plate", "number", "I", false)
  | 2 => ("EatenToll$Plate", "bulk", "I", false)
  | 3 => ("EatenToll$Plate", "gain", "I", false)
  | _ => ("EatenToll$Plate", "dishBits", "I", false)
def ct_7 : u_T := fun k => match k with
  | 0 => ("EatenToll$Reader", "tape", "LEatenToll$Tape;", true)
  | 1 => ("EatenToll$Reader", "draft", "LEatenToll$Told;", true)
  | 2 => ("EatenToll$Reader", "waiting", "[I", true)
  | 3 => ("EatenToll$Reader", "waitingSize", "I", false)
  | 4 => ("EatenToll$Reader", "taken", "I", false)
  | 5 => ("EatenToll$Reader", "kind", "I", false)
  | 6 => ("EatenToll$Reader", "fault", "I", false)
  | 7 => ("EatenToll$Reader", "faultPlace", "I", false)
  | 8 => ("EatenToll$Reader", "slip", "I", false)
  | 9 => ("EatenToll$Reader", "slipPlace", "I", false)
  | 10 => ("EatenToll$Reader", "tookPlace", "I", false)
  | _ => ("EatenToll$Reader", "tookValue", "J", false)
def ct_8 : u_T := fun k => match k with
  | _ => ("EatenToll$Scene", "cells", "[I", true)
def ct_9 : u_T := fun k => match k with
  | 0 => ("EatenToll$Tape", "bytes", "[B", true)
  | 1 => ("EatenToll$Tape", "words", "[J", true)
  | 2 => ("EatenToll$Tape", "kinds", "[I", true)
  | 3 => ("EatenToll$Tape", "starts", "[I", true)
  | 4 => ("EatenToll$Tape", "values", "[J", true)
  | 5 => ("EatenToll$Tape", "length", "I", false)
  | _ => ("EatenToll$Tape", "at", "I", false)
def ct_10 : u_T := fun k => match k with
  | 0 => ("EatenToll$Told", "counts", "[I", true)
  | 1 => ("EatenToll$Told", "names", "[J", true)
  | 2 => ("EatenToll$Told", "bulk", "[I", true)
  | 3 => ("EatenToll$Told", "gain", "[I", true)
  | 4 => ("EatenToll$Told", "store", "[I", true)
  | 5 => ("EatenToll$Told", "belly", "[I", true)
  | 6 => ("EatenToll$Told", "full", "[I", true)
  | 7 => ("EatenToll$Told", "empties", "[I", true)
  | 8 => ("EatenToll$Told", "load", "[I", true)
  | 9 => ("EatenToll$Told", "hates", "[I", true)
  | 10 => ("EatenToll$Told", "fastHours", "[I", true)
  | 11 => ("EatenToll$Told", "ill", "[I", true)
  | 12 => ("EatenToll$Told", "net", "[I", true)
  | 13 => ("EatenToll$Told", "hiredRoom", "[I", true)
  | 14 => ("EatenToll$Told", "hiredFee", "[I", true)
  | 15 => ("EatenToll$Told", "goer", "[I", true)
  | 16 => ("EatenToll$Told", "goingHour", "[I", true)
  | 17 => ("EatenToll$Told", "lawStart", "[I", true)
  | 18 => ("EatenToll$Told", "code", "[I", true)
  | 19 => ("EatenToll$Told", "codeLength", "I", false)
  | _ => ("EatenToll$Told", "aheadGates", "I", false)
def ct_11 : u_T := fun k => match k with
  | 0 => ("EatenToll", "tape", "LEatenToll$Tape;", true)
  | 1 => ("EatenToll", "told", "LEatenToll$Told;", true)
  | 2 => ("EatenToll", "draft", "LEatenToll$Told;", true)
  | 3 => ("EatenToll", "reader", "LEatenToll$Reader;", true)
  | 4 => ("EatenToll", "now", "LEatenToll$Scene;", true)
  | 5 => ("EatenToll", "trial", "LEatenToll$Scene;", true)
  | 6 => ("EatenToll", "plate", "LEatenToll$Plate;", true)
  | 7 => ("EatenToll", "otherPlate", "LEatenToll$Plate;", true)
  | 8 => ("EatenToll", "keeper", "LEatenToll$Keeper;", true)
  | 9 => ("EatenToll", "memory", "LEatenToll$Memory;", true)
  | 10 => ("EatenToll", "mouths", "LEatenToll$Mouths;", true)
  | 11 => ("EatenToll", "planner", "LEatenToll$Planner;", true)
  | 12 => ("EatenToll", "guesser", "LEatenToll$Guesser;", true)
  | _ => ("EatenToll", "book", "LEatenToll$Book;", true)
def ct_12 : u_T := fun k => match k with
  | 0 => ("EatenTollModel", "thrown", "I", false)
  | 1 => ("EatenTollModel", "tape", "[B", true)
  | 2 => ("EatenTollModel", "taped", "I", false)
  | 3 => ("EatenTollModel", "text", "[B", true)
  | 4 => ("EatenTollModel", "size", "I", false)
  | 5 => ("EatenTollModel", "tKind", "[I", true)
  | 6 => ("EatenTollModel", "tPlace", "[I", true)
  | 7 => ("EatenTollModel", "tValue", "[I", true)
  | 8 => ("EatenTollModel", "tName", "[J", true)
  | 9 => ("EatenTollModel", "keys", "[J", true)
  | 10 => ("EatenTollModel", "tokens", "I", false)
  | 11 => ("EatenTollModel", "t", "I", false)
  | 12 => ("EatenTollModel", "open", "I", false)
  | 13 => ("EatenTollModel", "fault", "I", false)
  | 14 => ("EatenTollModel", "faultPlace", "I", false)
  | 15 => ("EatenTollModel", "worst", "I", false)
  | 16 => ("EatenTollModel", "worstPlace", "I", false)
  | 17 => ("EatenTollModel", "place", "I", false)
  | 18 => ("EatenTollModel", "live", "I", false)
  | 19 => ("EatenTollModel", "side", "I", false)
  | 20 => ("EatenTollModel", "names", "I", false)
  | 21 => ("EatenTollModel", "nameOf", "[J", true)
  | 22 => ("EatenTollModel", "nameSort", "[I", true)
  | 23 => ("EatenTollModel", "nameAt", "[I", true)
  | 24 => ("EatenTollModel", "dishes", "[I", true)
  | 25 => ("EatenTollModel", "bulk", "[I", true)
  | 26 => ("EatenTollModel", "gain", "[I", true)
  | 27 => ("EatenTollModel", "storeTold", "[I", true)
  | 28 => ("EatenTollModel", "men", "[I", true)
  | 29 => ("EatenTollModel", "belly", "[I", true)
  | 30 => ("EatenTollModel", "fullTold", "[I", true)
  | 31 => ("EatenTollModel", "empties", "[I", true)
  | 32 => ("EatenTollModel", "load", "[I", true)
  | 33 => ("EatenTollModel", "fastFrom", "[I", true)
  | 34 => ("EatenTollModel", "fastTo", "[I", true)
  | 35 => ("EatenTollModel", "hates", "[Z", true)
  | 36 => ("EatenTollModel", "ill", "[I", true)
  | 37 => ("EatenTollModel", "laws", "[I", true)
  | 38 => ("EatenTollModel", "lawFirst", "[I", true)
  | 39 => ("EatenTollModel", "lawLast", "[I", true)
  | 40 => ("EatenTollModel", "branches", "I", false)
  | 41 => ("EatenTollModel", "hasTest", "[Z", true)
  | 42 => ("EatenTollModel", "testFrom", "[I", true)
  | 43 => ("EatenTollModel", "testMid", "[I", true)
  | 44 => ("EatenTollModel", "testTo", "[I", true)
  | 45 => ("EatenTollModel", "termTo", "[I", true)
  | 46 => ("EatenTollModel", "bellies", "[I", true)
  | 47 => ("EatenTollModel", "hireRoom", "[I", true)
  | 48 => ("EatenTollModel", "fee", "[I", true)
  | 49 => ("EatenTollModel", "goings", "[I", true)
  | 50 => ("EatenTollModel", "goMan", "[I", true)
  | 51 => ("EatenTollModel", "goHour", "[I", true)
  | 52 => ("EatenTollModel", "debts", "[I", true)
  | 53 => ("EatenTollModel", "debtFrom", "[I", true)
  | 54 => ("EatenTollModel", "debtTo", "[I", true)
  | 55 => ("EatenTollModel", "debtMany", "[I", true)
  | 56 => ("EatenTollModel", "codes", "I", false)
  | 57 => ("EatenTollModel", "code", "[I", true)
  | 58 => ("EatenTollModel", "codeInt", "[I", true)
  | 59 => ("EatenTollModel", "waits", "[I", true)
  | 60 => ("EatenTollModel", "waiting", "I", false)
  | 61 => ("EatenTollModel", "variables", "[I", true)
  | 62 => ("EatenTollModel", "pile", "[I", true)
  | 63 => ("EatenTollModel", "isBroken", "Z", false)
  | 64 => ("EatenTollModel", "now", "[I", true)
  | 65 => ("EatenTollModel", "row", "[I", true)
  | 66 => ("EatenTollModel", "bites", "[I", true)
  | 67 => ("EatenTollModel", "undos", "I", false)
  | 68 => ("EatenTollModel", "history", "[I", true)
  | 69 => ("EatenTollModel", "used", "[I", true)
  | 70 => ("EatenTollModel", "canLeave", "[Z", true)
  | 71 => ("EatenTollModel", "hireFee", "I", false)
  | 72 => ("EatenTollModel", "bitesOne", "[I", true)
  | 73 => ("EatenTollModel", "sums", "[I", true)
  | 74 => ("EatenTollModel", "bestBites", "[I", true)
  | 75 => ("EatenTollModel", "lawBites", "[I", true)
  | 76 => ("EatenTollModel", "bestGain", "I", false)
  | 77 => ("EatenTollModel", "wentIn", "I", false)
  | 78 => ("EatenTollModel", "wentAway", "I", false)
  | 79 => ("EatenTollModel", "netSum", "[I", true)
  | 80 => ("EatenTollModel", "groups", "[I", true)
  | 81 => ("EatenTollModel", "entries", "I", false)
  | 82 => ("EatenTollModel", "entryMan", "[I", true)
  | 83 => ("EatenTollModel", "entryGate", "[I", true)
  | 84 => ("EatenTollModel", "entryHour", "[I", true)
  | 85 => ("EatenTollModel", "led", "[I", true)
  | 86 => ("EatenTollModel", "isHeld", "[Z", true)
  | _ => ("EatenTollModel", "held", "[I", true)
def am_cls : List vw_C := [("EatenToll$Book", ct_0, 9), ("EatenToll$Guesser", ct_1, 9), ("EatenToll$Keeper", ct_2, 3), ("EatenToll$Memory", ct_3, 5), ("EatenToll$Mouths", ct_4, 8), ("EatenToll$Planner", ct_5, 9), ("EatenToll$Plate", ct_6, 5), ("EatenToll$Reader", ct_7, 12), ("EatenToll$Scene", ct_8, 1), ("EatenToll$Tape", ct_9, 7), ("EatenToll$Told", ct_10, 21), ("EatenToll", ct_11, 14), ("EatenTollModel", ct_12, 88)]
def am_rcls : List (String × (Nat → String × String)) := [("java/lang/String", fun j => match j with
  | 0 => ("value", "[B")
  | _ => ("coder", "B"))]
def am_strs : List (String × Nat × String) := [("EatenToll$Tape", 29, "dish man belly goes owe law hates ill fast if then else hour load room full ahead left sick "), ("EatenToll$Tape", 71, ";=+-*/<()")]
def am_Tg : List Cond := k2_sels lw_privs ++ tables_1.filter goodWord
def am_NT : List Cond := tables_1.filter am_nest
def am_T : List Cond := am_Tg ++ am_NT
abbrev am_R1 : Type := MethodName × ByteArray × Nat × Option FieldType × Nat × Nat × Nat
def am_mt0 : List am_R1 := [(⟨"EatenTollLaw", "law", "([I)Z"⟩, code, 4, (some .boolean), 1, 13, 488),
  (⟨"EatenToll", "<init>", "()V"⟩, prog_1_method_1_code, 1, none, 0, 5, 108),
  (⟨"EatenTollModel", "<init>", "()V"⟩, prog_14_method_2_code, 1, none, 0, 2, 48),
  (⟨"EatenToll", "feed", "(IIIII)I"⟩, prog_1_method_2_code, 6, (some .int), 5, 1, 22),
  (⟨"EatenTollModel", "feed", "(IIIII)I"⟩, prog_14_method_3_code, 6, (some .int), 5, 1, 22),
  (⟨"EatenToll", "back", "(I)I"⟩, prog_1_method_3_code, 2, (some .int), 1, 0, 0),
  (⟨"EatenTollModel", "back", "(I)I"⟩, prog_14_method_5_code, 2, (some .int), 1, 0, 0),
  (⟨"EatenToll", "read", "()I"⟩, prog_1_method_4_code, 1, (some .int), 0, 7, 156),
  (⟨"EatenTollModel", "read", "()I"⟩, prog_14_method_19_code, 2, (some .int), 0, 7, 152),
  (⟨"EatenToll", "place", "()I"⟩, prog_1_method_5_code, 1, (some .int), 0, 0, 0),
  (⟨"EatenTollModel", "place", "()I"⟩, prog_14_method_20_code, 1, (some .int), 0, 0, 0),
  (⟨"EatenToll", "man", "(II)I"⟩, prog_1_method_6_code, 3, (some .int), 2, 2, 41),
  (⟨"EatenTollModel", "man", "(II)I"⟩, prog_14_method_61_code, 3, (some .int), 2, 2, 43),
  (⟨"EatenToll", "dish", "(II)I"⟩, prog_1_method_7_code, 3, (some .int), 2, 2, 41),
  (⟨"EatenTollModel", "dish", "(II)I"⟩, prog_14_method_62_code, 3, (some .int), 2, 2, 43),
  (⟨"EatenToll", "toll", "(III)I"⟩, prog_1_method_8_code, 4, (some .int), 3, 3, 78),
  (⟨"EatenTollModel", "toll", "(III)I"⟩, prog_14_method_63_code, 4, (some .int), 3, 3, 75),
  (⟨"EatenToll", "may", "(II)I"⟩, prog_1_method_9_code, 3, (some .int), 2, 3, 78),
  (⟨"EatenTollModel", "may", "(II)I"⟩, prog_14_method_64_code, 3, (some .int), 2, 4, 97),
  (⟨"EatenToll", "pass", "(II)I"⟩, prog_1_method_10_code, 4, (some .int), 2, 4, 100),
  (⟨"EatenTollModel", "pass", "(II)I"⟩, prog_14_method_66_code, 4, (some .int), 2, 4, 97),
  (⟨"EatenToll", "later", "(I)I"⟩, prog_1_method_11_code, 3, (some .int), 1, 3, 68),
  (⟨"EatenTollModel", "later", "(I)I"⟩, prog_14_method_67_code, 3, (some .int), 1, 2, 41),
  (⟨"EatenToll", "undo", "()Z"⟩, prog_1_method_12_code, 1, (some .boolean), 0, 2, 48),
  (⟨"EatenTollModel", "undo", "()Z"⟩, prog_14_method_68_code, 2, (some .boolean), 0, 0, 0),
  (⟨"EatenToll", "when", "(II)I"⟩, prog_1_method_13_code, 3, (some .int), 2, 5, 125),
  (⟨"EatenTollModel", "when", "(II)I"⟩, prog_14_method_69_code, 4, (some .int), 2, 4, 97),
  (⟨"EatenToll", "hire", "(III)I"⟩, prog_1_method_14_code, 5, (some .int), 3, 4, 106),
  (⟨"EatenTollModel", "hire", "(III)I"⟩, prog_14_method_75_code, 5, (some .int), 3, 4, 102),
  (⟨"EatenToll", "tongue", "(II)I"⟩, prog_1_method_15_code, 3, (some .int), 2, 3, 78),
  (⟨"EatenTollModel", "tongue", "(II)I"⟩, prog_14_method_76_code, 9, (some .int), 2, 3, 75),
  (⟨"EatenToll", "together", "(III)I"⟩, prog_1_method_16_code, 5, (some .int), 3, 4, 105),
  (⟨"EatenTollModel", "together", "(III)I"⟩, prog_14_method_78_code, 4, (some .int), 3, 4, 109),
  (⟨"EatenToll", "split", "(III)I"⟩, prog_1_method_17_code, 6, (some .int), 3, 3, 80),
  (⟨"EatenTollModel", "split", "(III)I"⟩, prog_14_method_79_code, 4, (some .int), 3, 4, 109),
  (⟨"EatenToll", "odds", "(III)J"⟩, prog_1_method_18_code, 7, (some .long), 3, 0, 0),
  (⟨"EatenTollModel", "odds", "(III)J"⟩, prog_14_method_80_code, 7, (some .long), 3, 1, 22),
  (⟨"EatenToll", "soonest", "(II)I"⟩, prog_1_method_19_code, 3, (some .int), 2, 6, 154),
  (⟨"EatenTollModel", "soonest", "(II)I"⟩, prog_14_method_86_code, 3, (some .int), 2, 4, 101),
  (⟨"EatenToll", "least", "(IIZ)I"⟩, prog_1_method_20_code, 4, (some .int), 3, 6, 154)]
def am_mt1 : List am_R1 := [(⟨"EatenTollModel", "least", "(IIZ)I"⟩, prog_14_method_87_code, 4, (some .int), 3, 5, 124),
  (⟨"EatenToll", "crowd", "(III)I"⟩, prog_1_method_21_code, 5, (some .int), 3, 6, 154),
  (⟨"EatenTollModel", "crowd", "(III)I"⟩, prog_14_method_88_code, 6, (some .int), 3, 5, 124),
  (⟨"EatenToll", "hourOf", "(IIZ)I"⟩, prog_1_method_22_code, 4, (some .int), 3, 5, 129),
  (⟨"EatenTollModel", "hourOf", "(IIZ)I"⟩, prog_14_method_89_code, 7, (some .int), 3, 4, 97),
  (⟨"EatenToll", "best", "(II)I"⟩, prog_1_method_23_code, 3, (some .int), 2, 4, 94),
  (⟨"EatenTollModel", "best", "(II)I"⟩, prog_14_method_92_code, 6, (some .int), 2, 4, 90),
  (⟨"EatenToll", "day", "(I)I"⟩, prog_1_method_24_code, 2, (some .int), 1, 6, 147),
  (⟨"EatenTollModel", "day", "(I)I"⟩, prog_14_method_94_code, 3, (some .int), 1, 5, 123),
  (⟨"EatenToll", "net", "(I)I"⟩, prog_1_method_25_code, 2, (some .int), 1, 2, 41),
  (⟨"EatenTollModel", "net", "(I)I"⟩, prog_14_method_96_code, 2, (some .int), 1, 2, 43),
  (⟨"EatenToll", "cleared", "()I"⟩, prog_1_method_26_code, 1, (some .int), 0, 2, 51),
  (⟨"EatenTollModel", "cleared", "()I"⟩, prog_14_method_97_code, 5, (some .int), 0, 1, 23),
  (⟨"EatenToll", "gained", "(I)I"⟩, prog_1_method_27_code, 2, (some .int), 1, 1, 21),
  (⟨"EatenTollModel", "gained", "(I)I"⟩, prog_14_method_98_code, 2, (some .int), 1, 2, 42),
  (⟨"EatenToll", "enter", "(III)I"⟩, prog_1_method_28_code, 4, (some .int), 3, 2, 41),
  (⟨"EatenTollModel", "enter", "(III)I"⟩, prog_14_method_99_code, 4, (some .int), 3, 2, 43),
  (⟨"EatenToll", "burn", "()I"⟩, prog_1_method_29_code, 2, (some .int), 0, 0, 0),
  (⟨"EatenTollModel", "burn", "()I"⟩, prog_14_method_100_code, 2, (some .int), 0, 0, 0),
  (⟨"EatenToll", "judge", "(I)I"⟩, prog_1_method_30_code, 2, (some .int), 1, 5, 126),
  (⟨"EatenTollModel", "judge", "(I)I"⟩, prog_14_method_102_code, 2, (some .int), 1, 5, 123),
  (⟨"EatenToll", "odd", "(I)I"⟩, prog_1_method_31_code, 2, (some .int), 1, 6, 148),
  (⟨"EatenTollModel", "odd", "(I)I"⟩, prog_14_method_103_code, 3, (some .int), 1, 5, 123),
  (⟨"EatenToll", "led", "(III)I"⟩, prog_1_method_32_code, 5, (some .int), 3, 6, 153),
  (⟨"EatenTollModel", "led", "(III)I"⟩, prog_14_method_104_code, 6, (some .int), 3, 5, 123),
  (⟨"EatenToll", "hold", "(I)Z"⟩, prog_1_method_33_code, 2, (some .boolean), 1, 2, 48),
  (⟨"EatenTollModel", "hold", "(I)Z"⟩, prog_14_method_105_code, 3, (some .boolean), 1, 1, 22),
  (⟨"EatenToll", "restore", "(I)Z"⟩, prog_1_method_34_code, 2, (some .boolean), 1, 2, 48),
  (⟨"EatenTollModel", "restore", "(I)Z"⟩, prog_14_method_106_code, 3, (some .boolean), 1, 1, 22),
  (⟨"EatenToll", "count", "(I)I"⟩, prog_1_method_35_code, 2, (some .int), 1, 1, 21),
  (⟨"EatenTollModel", "count", "(I)I"⟩, prog_14_method_107_code, 2, (some .int), 1, 0, 0),
  (⟨"EatenToll$Tape", "<init>", "()V"⟩, prog_11_method_1_code, 4, none, 0, 4, 85),
  (⟨"EatenToll$Told", "<init>", "()V"⟩, prog_12_method_1_code, 1, none, 0, 1, 26),
  (⟨"EatenToll$Reader", "<init>", "(LEatenToll$Tape;LEatenToll$Told;)V"⟩, prog_9_method_1_code, 3, none, 2, 1, 26),
  (⟨"EatenToll$Scene", "<init>", "()V"⟩, prog_10_method_1_code, 1, none, 0, 1, 26),
  (⟨"EatenToll$Plate", "<init>", "()V"⟩, prog_8_method_1_code, 1, none, 0, 1, 26),
  (⟨"EatenToll$Keeper", "<init>", "(LEatenToll$Told;)V"⟩, prog_4_method_1_code, 2, none, 1, 1, 26),
  (⟨"EatenToll$Memory", "<init>", "()V"⟩, prog_5_method_1_code, 1, none, 0, 1, 26),
  (⟨"EatenToll$Mouths", "<init>", "(LEatenToll$Told;)V"⟩, prog_6_method_1_code, 2, none, 1, 1, 26),
  (⟨"EatenToll$Planner", "<init>", "(LEatenToll$Told;LEatenToll$Keeper;LEatenToll$Scene;LEatenToll$Plate;)V"⟩, prog_7_method_1_code, 5, none, 4, 1, 26)]
def am_mt2 : List am_R1 := [(⟨"EatenToll$Guesser", "<init>", "(LEatenToll$Told;LEatenToll$Keeper;LEatenToll$Scene;LEatenToll$Plate;LEatenToll$Plate;)V"⟩, prog_3_method_1_code, 6, none, 5, 1, 26),
  (⟨"EatenToll$Book", "<init>", "(LEatenToll$Told;LEatenToll$Keeper;LEatenToll$Scene;LEatenToll$Plate;)V"⟩, prog_2_method_1_code, 5, none, 4, 1, 26),
  (⟨"EatenTollModel", "word", "(IIIIIII)J"⟩, prog_14_method_10_code, 7, (some .long), 7, 1, 22),
  (⟨"EatenToll$Tape", "hasRoomFor", "(I)Z"⟩, prog_11_method_2_code, 2, (some .boolean), 1, 0, 0),
  (⟨"EatenToll$Tape", "append", "(I)V"⟩, prog_11_method_3_code, 3, none, 1, 0, 0),
  (⟨"EatenTollModel", "put", "(I)V"⟩, prog_14_method_4_code, 3, none, 1, 0, 0),
  (⟨"EatenToll$Reader", "readTape", "()V"⟩, prog_9_method_2_code, 2, none, 0, 6, 135),
  (⟨"EatenToll$Told", "copyFrom", "(LEatenToll$Told;)V"⟩, prog_12_method_6_code, 2, none, 1, 2, 47),
  (⟨"EatenToll$Scene", "begin", "(LEatenToll$Told;)V"⟩, prog_10_method_2_code, 2, none, 1, 1, 26),
  (⟨"EatenToll$Memory", "forgetAll", "()V"⟩, prog_5_method_2_code, 1, none, 0, 0, 0),
  (⟨"EatenTollModel", "cut", "()V"⟩, prog_14_method_12_code, 8, none, 0, 2, 49),
  (⟨"EatenTollModel", "is", "(I)Z"⟩, prog_14_method_14_code, 2, (some .boolean), 1, 0, 0),
  (⟨"EatenTollModel", "tell", "()V"⟩, prog_14_method_22_code, 1, none, 0, 6, 132),
  (⟨"EatenTollModel", "begins", "()V"⟩, prog_14_method_46_code, 2, none, 0, 1, 20),
  (⟨"EatenToll", "isMan", "(I)Z"⟩, prog_1_method_36_code, 2, (some .boolean), 1, 1, 20),
  (⟨"EatenToll$Scene", "full", "(I)I"⟩, prog_10_method_4_code, 2, (some .int), 1, 0, 0),
  (⟨"EatenToll$Scene", "sickHours", "(I)I"⟩, prog_10_method_5_code, 2, (some .int), 1, 0, 0),
  (⟨"EatenToll$Scene", "swallowedBy", "(I)I"⟩, prog_10_method_6_code, 2, (some .int), 1, 0, 0),
  (⟨"EatenToll$Scene", "passedToday", "(I)I"⟩, prog_10_method_7_code, 2, (some .int), 1, 0, 0),
  (⟨"EatenTollModel", "isMan", "(I)Z"⟩, prog_14_method_43_code, 2, (some .boolean), 1, 1, 22),
  (⟨"EatenToll", "isDish", "(I)Z"⟩, prog_1_method_37_code, 2, (some .boolean), 1, 1, 20),
  (⟨"EatenToll$Scene", "store", "(I)I"⟩, prog_10_method_8_code, 2, (some .int), 1, 0, 0),
  (⟨"EatenToll$Scene", "swallowedOf", "(I)I"⟩, prog_10_method_9_code, 2, (some .int), 1, 0, 0),
  (⟨"EatenTollModel", "isDish", "(I)Z"⟩, prog_14_method_44_code, 2, (some .boolean), 1, 1, 22),
  (⟨"EatenToll", "isGate", "(I)Z"⟩, prog_1_method_40_code, 1, (some .boolean), 1, 0, 0),
  (⟨"EatenToll", "isDishOrAll", "(I)Z"⟩, prog_1_method_38_code, 2, (some .boolean), 1, 2, 41),
  (⟨"EatenToll$Keeper", "lay", "(LEatenToll$Scene;IIILEatenToll$Plate;)V"⟩, prog_4_method_2_code, 8, none, 5, 2, 51),
  (⟨"EatenTollModel", "isGate", "(I)Z"⟩, prog_14_method_45_code, 1, (some .boolean), 1, 1, 22),
  (⟨"EatenTollModel", "takes", "()V"⟩, prog_14_method_47_code, 2, none, 0, 0, 0),
  (⟨"EatenTollModel", "tolls", "(III)V"⟩, prog_14_method_51_code, 5, none, 3, 2, 51),
  (⟨"EatenTollModel", "bulkNow", "()I"⟩, prog_14_method_52_code, 3, (some .int), 0, 1, 20),
  (⟨"EatenToll$Keeper", "whyNot", "(LEatenToll$Scene;ILEatenToll$Plate;Z)I"⟩, prog_4_method_5_code, 5, (some .int), 4, 2, 44),
  (⟨"EatenTollModel", "mayNow", "(II)I"⟩, prog_14_method_59_code, 3, (some .int), 2, 3, 75),
  (⟨"EatenToll$Memory", "remember", "(LEatenToll$Scene;)V"⟩, prog_5_method_3_code, 3, none, 1, 1, 26),
  (⟨"EatenToll$Keeper", "swallow", "(LEatenToll$Scene;IILEatenToll$Plate;)V"⟩, prog_4_method_9_code, 7, none, 4, 1, 24),
  (⟨"EatenTollModel", "swallows", "(II)V"⟩, prog_14_method_60_code, 4, none, 2, 2, 42),
  (⟨"EatenTollModel", "keeps", "()V"⟩, prog_14_method_65_code, 2, none, 0, 0, 0),
  (⟨"EatenToll$Scene", "letHourGoBy", "(LEatenToll$Told;)V"⟩, prog_10_method_17_code, 3, none, 1, 2, 46),
  (⟨"EatenToll$Scene", "hour", "()I"⟩, prog_10_method_12_code, 1, (some .int), 0, 0, 0),
  (⟨"EatenTollModel", "in", "(III)Z"⟩, prog_14_method_40_code, 3, (some .boolean), 3, 0, 0)]
def am_mt3 : List am_R1 := [(⟨"EatenTollModel", "hourGoes", "()V"⟩, prog_14_method_48_code, 2, none, 0, 1, 20),
  (⟨"EatenToll$Memory", "takeBack", "(LEatenToll$Scene;)Z"⟩, prog_5_method_4_code, 3, (some .boolean), 1, 1, 26),
  (⟨"EatenToll$Guesser", "hoursUntilMay", "(LEatenToll$Scene;II)I"⟩, prog_3_method_2_code, 5, (some .int), 3, 4, 101),
  (⟨"EatenToll$Keeper", "storesHave", "(LEatenToll$Scene;LEatenToll$Plate;)Z"⟩, prog_4_method_6_code, 4, (some .boolean), 2, 1, 21),
  (⟨"EatenToll$Keeper", "openRoom", "(LEatenToll$Scene;I)I"⟩, prog_4_method_8_code, 4, (some .int), 2, 2, 42),
  (⟨"EatenToll$Mouths", "cheapest", "(LEatenToll$Plate;II)I"⟩, prog_6_method_3_code, 9, (some .int), 3, 3, 78),
  (⟨"EatenToll$Mouths", "feeOf", "(I)I"⟩, prog_6_method_2_code, 4, (some .int), 1, 1, 20),
  (⟨"EatenTollModel", "hires", "(II)I"⟩, prog_14_method_74_code, 8, (some .int), 2, 3, 75),
  (⟨"EatenToll$Mouths", "mostSwallowed", "(LEatenToll$Plate;II)I"⟩, prog_6_method_8_code, 9, (some .int), 3, 1, 26),
  (⟨"EatenTollModel", "hasStores", "()Z"⟩, prog_14_method_57_code, 2, (some .boolean), 0, 1, 20),
  (⟨"EatenTollModel", "bitesNow", "()I"⟩, prog_14_method_54_code, 1, (some .int), 0, 0, 0),
  (⟨"EatenTollModel", "room", "(I)I"⟩, prog_14_method_49_code, 2, (some .int), 1, 0, 0),
  (⟨"EatenTollModel", "eats", "(I)I"⟩, prog_14_method_73_code, 4, (some .int), 1, 2, 43),
  (⟨"EatenTollModel", "kinds", "()I"⟩, prog_14_method_42_code, 1, (some .int), 0, 0, 0),
  (⟨"EatenTollModel", "splits", "(III)I"⟩, prog_14_method_77_code, 15, (some .int), 3, 3, 75),
  (⟨"EatenToll$Plate", "addAll", "(LEatenToll$Plate;LEatenToll$Told;)V"⟩, prog_8_method_4_code, 4, none, 2, 1, 23),
  (⟨"EatenToll$Mouths", "fewestByFirst", "(LEatenToll$Plate;IIII)I"⟩, prog_6_method_9_code, 10, (some .int), 5, 2, 51),
  (⟨"EatenToll", "isSet", "(I)Z"⟩, prog_1_method_39_code, 2, (some .boolean), 1, 1, 20),
  (⟨"EatenToll$Planner", "planDay", "(LEatenToll$Scene;III)I"⟩, prog_7_method_2_code, 7, (some .int), 4, 5, 128),
  (⟨"EatenTollModel", "isSet", "(I)Z"⟩, prog_14_method_81_code, 2, (some .boolean), 1, 1, 22),
  (⟨"EatenTollModel", "startsPlan", "()V"⟩, prog_14_method_84_code, 2, none, 0, 1, 21),
  (⟨"EatenTollModel", "passMore", "(III)V"⟩, prog_14_method_83_code, 7, none, 3, 3, 75),
  (⟨"EatenToll$Planner", "worthOfAll", "()I"⟩, prog_7_method_3_code, 1, (some .int), 0, 1, 26),
  (⟨"EatenTollModel", "plans", "(III)V"⟩, prog_14_method_85_code, 4, none, 3, 4, 101),
  (⟨"EatenToll$Planner", "largestCrowd", "()I"⟩, prog_7_method_4_code, 3, (some .int), 0, 1, 20),
  (⟨"java/lang/Integer", "bitCount", "(I)I"⟩, prog_16_method_49_code, 1, (some .int), 1, 0, 0),
  (⟨"EatenTollModel", "bits", "(I)I"⟩, prog_14_method_82_code, 3, (some .int), 1, 0, 0),
  (⟨"EatenToll$Guesser", "bestHour", "(LEatenToll$Scene;IIZ)I"⟩, prog_3_method_3_code, 9, (some .int), 4, 4, 101),
  (⟨"EatenTollModel", "gainNow", "()I"⟩, prog_14_method_53_code, 3, (some .int), 0, 1, 20),
  (⟨"EatenToll$Guesser", "findBestLaw", "(LEatenToll$Scene;I)V"⟩, prog_3_method_7_code, 8, none, 2, 3, 67),
  (⟨"EatenTollModel", "gainBy", "(I)I"⟩, prog_14_method_90_code, 5, (some .int), 1, 3, 66),
  (⟨"EatenTollModel", "nextLaw", "()Z"⟩, prog_14_method_91_code, 2, (some .boolean), 0, 1, 20),
  (⟨"EatenToll$Guesser", "liveDay", "(LEatenToll$Scene;)V"⟩, prog_3_method_5_code, 4, none, 1, 5, 124),
  (⟨"EatenToll$Scene", "gainAt", "(I)I"⟩, prog_10_method_10_code, 2, (some .int), 1, 0, 0),
  (⟨"EatenTollModel", "goesOne", "(I)V"⟩, prog_14_method_93_code, 7, none, 1, 4, 97),
  (⟨"EatenTollModel", "netOf", "(I)I"⟩, prog_14_method_95_code, 4, (some .int), 1, 0, 0),
  (⟨"EatenToll$Told", "men", "()I"⟩, prog_12_method_3_code, 1, (some .int), 0, 0, 0),
  (⟨"EatenToll$Mouths", "mostQuits", "()I"⟩, prog_6_method_11_code, 6, (some .int), 0, 1, 26),
  (⟨"EatenTollModel", "menNow", "()I"⟩, prog_14_method_41_code, 1, (some .int), 0, 0, 0),
  (⟨"EatenToll$Book", "write", "(III)I"⟩, prog_2_method_3_code, 4, (some .int), 3, 0, 0)]
def am_mt4 : List am_R1 := [(⟨"EatenToll$Book", "has", "(I)Z"⟩, prog_2_method_2_code, 2, (some .boolean), 1, 0, 0),
  (⟨"EatenToll$Book", "firstRefused", "(II)I"⟩, prog_2_method_4_code, 5, (some .int), 2, 4, 102),
  (⟨"EatenTollModel", "judges", "(II)I"⟩, prog_14_method_101_code, 7, (some .int), 2, 4, 97),
  (⟨"EatenToll$Book", "oddOne", "(I)I"⟩, prog_2_method_6_code, 3, (some .int), 1, 5, 126),
  (⟨"EatenToll$Book", "bitesLed", "(III)I"⟩, prog_2_method_7_code, 8, (some .int), 3, 5, 126),
  (⟨"EatenToll$Memory", "keepIn", "(ILEatenToll$Scene;)Z"⟩, prog_5_method_5_code, 3, (some .boolean), 2, 1, 26),
  (⟨"EatenToll$Memory", "takeUp", "(ILEatenToll$Scene;)Z"⟩, prog_5_method_6_code, 3, (some .boolean), 2, 1, 26),
  (⟨"EatenToll$Scene", "dayNumber", "()I"⟩, prog_10_method_13_code, 1, (some .int), 0, 0, 0),
  (⟨"EatenToll$Scene", "ahead", "(I)I"⟩, prog_10_method_11_code, 2, (some .int), 1, 0, 0),
  (⟨"java/lang/String", "length", "()I"⟩, prog_18_method_54_code, 1, (some .int), 0, 1, 20),
  (⟨"java/lang/String", "charAt", "(I)C"⟩, prog_18_method_56_code, 2, (some .char), 1, 3, 64),
  (⟨"EatenToll$Tape", "withLetter", "(JI)J"⟩, prog_11_method_8_code, 3, (some .long), 2, 0, 0),
  (⟨"java/util/Arrays", "fill", "([II)V"⟩, prog_22_method_103_code, 4, none, 2, 0, 0),
  (⟨"EatenTollModel", "appends", "(JI)J"⟩, prog_14_method_9_code, 3, (some .long), 2, 0, 0),
  (⟨"EatenToll$Told", "clear", "()V"⟩, prog_12_method_5_code, 1, none, 0, 1, 23),
  (⟨"EatenToll$Tape", "scan", "()V"⟩, prog_11_method_4_code, 2, none, 0, 5, 114),
  (⟨"EatenToll$Reader", "readDish", "()V"⟩, prog_9_method_3_code, 6, none, 0, 4, 89),
  (⟨"EatenToll$Reader", "readMan", "()V"⟩, prog_9_method_4_code, 9, none, 0, 4, 90),
  (⟨"EatenToll$Reader", "readBelly", "()V"⟩, prog_9_method_7_code, 5, none, 0, 4, 89),
  (⟨"EatenToll$Reader", "readGoing", "()V"⟩, prog_9_method_8_code, 3, none, 0, 3, 67),
  (⟨"EatenToll$Reader", "readDebt", "()V"⟩, prog_9_method_9_code, 4, none, 0, 3, 67),
  (⟨"EatenToll$Reader", "readLaw", "()V"⟩, prog_9_method_10_code, 4, none, 0, 4, 92),
  (⟨"EatenToll$Reader", "fail", "(I)V"⟩, prog_9_method_25_code, 2, none, 1, 0, 0),
  (⟨"EatenToll$Told", "copyRow", "([I[I)V"⟩, prog_12_method_7_code, 2, none, 2, 1, 26),
  (⟨"EatenToll$Told", "dishes", "()I"⟩, prog_12_method_2_code, 1, (some .int), 0, 0, 0),
  (⟨"EatenTollModel", "byteAt", "(I)I"⟩, prog_14_method_6_code, 2, (some .int), 1, 0, 0),
  (⟨"EatenTollModel", "token", "(IIIJ)V"⟩, prog_14_method_11_code, 6, none, 4, 0, 0),
  (⟨"EatenTollModel", "isLetter", "(I)Z"⟩, prog_14_method_8_code, 1, (some .boolean), 1, 0, 0),
  (⟨"EatenTollModel", "isDigit", "(I)Z"⟩, prog_14_method_7_code, 1, (some .boolean), 1, 0, 0),
  (⟨"EatenTollModel", "sign", "(III)I"⟩, prog_14_method_13_code, 5, (some .int), 3, 1, 25),
  (⟨"EatenTollModel", "roomFor", "(II)V"⟩, prog_14_method_21_code, 3, none, 2, 2, 41),
  (⟨"EatenTollModel", "tellDish", "()V"⟩, prog_14_method_27_code, 3, none, 0, 4, 84),
  (⟨"EatenTollModel", "tellMan", "()V"⟩, prog_14_method_28_code, 4, none, 0, 5, 109),
  (⟨"EatenTollModel", "tellLaw", "()V"⟩, prog_14_method_30_code, 5, none, 0, 5, 103),
  (⟨"EatenTollModel", "tellBelly", "()V"⟩, prog_14_method_32_code, 3, none, 0, 4, 84),
  (⟨"EatenTollModel", "tellGoing", "()V"⟩, prog_14_method_33_code, 2, none, 0, 4, 85),
  (⟨"EatenTollModel", "tellDebt", "()V"⟩, prog_14_method_34_code, 5, none, 0, 4, 85),
  (⟨"EatenTollModel", "fail", "(I)V"⟩, prog_14_method_15_code, 2, none, 1, 0, 0),
  (⟨"EatenToll$Plate", "clear", "()V"⟩, prog_8_method_2_code, 1, none, 0, 1, 23),
  (⟨"EatenToll$Keeper", "valueOf", "(I)I"⟩, prog_4_method_3_code, 6, (some .int), 1, 1, 26)]
def am_mt5 : List am_R1 := [(⟨"EatenToll$Plate", "add", "(IILEatenToll$Told;)V"⟩, prog_8_method_3_code, 4, none, 3, 0, 0),
  (⟨"EatenTollModel", "laid", "(I)I"⟩, prog_14_method_50_code, 5, (some .int), 1, 1, 27),
  (⟨"EatenToll$Keeper", "isFasting", "(LEatenToll$Scene;I)Z"⟩, prog_4_method_7_code, 3, (some .boolean), 2, 1, 20),
  (⟨"EatenTollModel", "why", "(IZ)I"⟩, prog_14_method_58_code, 4, (some .int), 2, 2, 43),
  (⟨"EatenToll$Scene", "goThrough", "(IILEatenToll$Plate;)V"⟩, prog_10_method_16_code, 5, none, 3, 0, 0),
  (⟨"EatenToll$Scene", "makeSick", "(I)V"⟩, prog_10_method_14_code, 2, none, 1, 0, 0),
  (⟨"java/util/Arrays", "fill", "([IIII)V"⟩, prog_22_method_104_code, 5, none, 4, 1, 22),
  (⟨"EatenToll$Scene", "copyFrom", "(LEatenToll$Scene;)V"⟩, prog_10_method_3_code, 2, none, 1, 1, 26),
  (⟨"EatenToll$Guesser", "mayInTrial", "(IILEatenToll$Plate;)Z"⟩, prog_3_method_4_code, 4, (some .boolean), 3, 3, 78),
  (⟨"EatenToll$Told", "bellies", "()I"⟩, prog_12_method_4_code, 1, (some .int), 0, 0, 0),
  (⟨"EatenToll$Mouths", "swallowsAll", "(ILEatenToll$Plate;II)Z"⟩, prog_6_method_4_code, 10, (some .boolean), 4, 2, 49),
  (⟨"EatenTollModel", "numberOf", "(IIII)I"⟩, prog_14_method_70_code, 4, (some .int), 4, 0, 0),
  (⟨"EatenTollModel", "oneSwallows", "(III)V"⟩, prog_14_method_72_code, 8, none, 3, 1, 20),
  (⟨"EatenTollModel", "fasts", "(I)Z"⟩, prog_14_method_55_code, 2, (some .boolean), 1, 1, 22),
  (⟨"EatenTollModel", "isHated", "(II)Z"⟩, prog_14_method_56_code, 3, (some .boolean), 2, 0, 0),
  (⟨"EatenTollModel", "step", "(I)I"⟩, prog_14_method_71_code, 1, (some .int), 1, 0, 0),
  (⟨"EatenToll$Mouths", "offer", "(III)V"⟩, prog_6_method_10_code, 6, none, 3, 1, 26),
  (⟨"EatenToll$Planner", "planHour", "()V"⟩, prog_7_method_5_code, 6, none, 0, 4, 103),
  (⟨"EatenToll$Guesser", "eatersOf", "(LEatenToll$Scene;I)I"⟩, prog_3_method_8_code, 6, (some .int), 2, 2, 42),
  (⟨"EatenToll$Guesser", "layByNumber", "(I)V"⟩, prog_3_method_9_code, 4, none, 1, 2, 43),
  (⟨"EatenToll$Guesser", "servedFrom", "(LEatenToll$Scene;)I"⟩, prog_3_method_10_code, 4, (some .int), 1, 1, 26),
  (⟨"EatenToll$Guesser", "whoSwallow", "(LEatenToll$Scene;I)I"⟩, prog_3_method_11_code, 6, (some .int), 2, 1, 21),
  (⟨"EatenToll$Scene", "forgetGains", "()V"⟩, prog_10_method_15_code, 1, none, 0, 2, 46),
  (⟨"EatenToll$Guesser", "goByHimself", "(I)V"⟩, prog_3_method_6_code, 4, none, 1, 4, 101),
  (⟨"EatenToll$Book", "whyRefused", "(I)I"⟩, prog_2_method_5_code, 5, (some .int), 1, 3, 78),
  (⟨"java/lang/String", "coder", "()B"⟩, prog_18_method_152_code, 1, (some .byte), 0, 0, 0),
  (⟨"java/lang/String", "isLatin1", "()Z"⟩, prog_18_method_154_code, 1, (some .boolean), 0, 0, 0),
  (⟨"java/lang/StringLatin1", "charAt", "([BI)C"⟩, prog_19_method_2_code, 2, (some .char), 2, 2, 43),
  (⟨"EatenToll$Tape", "isBlank", "(I)Z"⟩, prog_11_method_9_code, 1, (some .boolean), 1, 0, 0),
  (⟨"EatenToll$Tape", "scanToken", "(I)I"⟩, prog_11_method_5_code, 3, (some .int), 1, 4, 92),
  (⟨"EatenToll$Reader", "takeFirst", "(I)V"⟩, prog_9_method_18_code, 2, none, 1, 1, 21),
  (⟨"EatenToll$Reader", "newName", "()J"⟩, prog_9_method_19_code, 1, (some .long), 0, 3, 69),
  (⟨"EatenToll$Reader", "number", "(II)I"⟩, prog_9_method_23_code, 3, (some .int), 2, 1, 21),
  (⟨"EatenToll$Reader", "take", "(I)Z"⟩, prog_9_method_24_code, 2, (some .boolean), 1, 0, 0),
  (⟨"EatenToll$Told", "addDish", "(JIII)V"⟩, prog_12_method_12_code, 7, none, 4, 0, 0),
  (⟨"EatenToll$Told", "addMan", "(JIIII)I"⟩, prog_12_method_13_code, 8, (some .int), 5, 2, 46),
  (⟨"EatenToll$Reader", "isTrait", "()Z"⟩, prog_9_method_5_code, 1, (some .boolean), 0, 0, 0),
  (⟨"EatenToll$Reader", "readTrait", "(I)V"⟩, prog_9_method_6_code, 4, none, 1, 3, 67),
  (⟨"EatenToll$Told", "addBelly", "(JII)V"⟩, prog_12_method_17_code, 6, none, 3, 0, 0),
  (⟨"EatenToll$Reader", "toldMan", "()I"⟩, prog_9_method_21_code, 1, (some .int), 0, 2, 47)]
def am_mt6 : List am_R1 := [(⟨"EatenToll$Told", "addGoing", "(II)V"⟩, prog_12_method_18_code, 4, none, 2, 0, 0),
  (⟨"EatenToll$Reader", "note", "(I)V"⟩, prog_9_method_26_code, 2, none, 1, 0, 0),
  (⟨"EatenToll$Told", "addDebt", "(III)V"⟩, prog_12_method_19_code, 4, none, 3, 0, 0),
  (⟨"EatenToll$Reader", "toldDish", "()I"⟩, prog_9_method_20_code, 1, (some .int), 0, 2, 47),
  (⟨"EatenToll$Told", "beginLaw", "(II)V"⟩, prog_12_method_20_code, 3, none, 2, 0, 0),
  (⟨"EatenToll$Reader", "readIf", "(I)V"⟩, prog_9_method_11_code, 3, none, 1, 3, 70),
  (⟨"EatenToll$Reader", "readExpression", "(I)V"⟩, prog_9_method_12_code, 6, none, 1, 2, 45),
  (⟨"EatenToll$Told", "addStep", "(II)I"⟩, prog_12_method_21_code, 4, (some .int), 2, 0, 0),
  (⟨"EatenTollModel", "goesOn", "()V"⟩, prog_14_method_17_code, 1, none, 0, 1, 21),
  (⟨"EatenTollModel", "named", "()I"⟩, prog_14_method_23_code, 3, (some .int), 0, 3, 62),
  (⟨"EatenTollModel", "bounded", "(II)I"⟩, prog_14_method_26_code, 4, (some .int), 2, 2, 41),
  (⟨"EatenTollModel", "must", "(I)V"⟩, prog_14_method_18_code, 2, none, 1, 2, 41),
  (⟨"EatenTollModel", "notes", "(III)V"⟩, prog_14_method_24_code, 4, none, 3, 0, 0),
  (⟨"EatenTollModel", "tellTrait", "(I)V"⟩, prog_14_method_29_code, 5, none, 1, 4, 85),
  (⟨"EatenTollModel", "known", "(I)I"⟩, prog_14_method_25_code, 4, (some .int), 1, 3, 62),
  (⟨"EatenTollModel", "expression", "()V"⟩, prog_14_method_37_code, 3, none, 0, 3, 61),
  (⟨"EatenTollModel", "term", "()V"⟩, prog_14_method_31_code, 1, none, 0, 4, 83),
  (⟨"EatenTollModel", "wrong", "(II)V"⟩, prog_14_method_16_code, 4, none, 2, 0, 0),
  (⟨"EatenToll$Keeper", "combined", "(III)I"⟩, prog_4_method_4_code, 3, (some .int), 3, 0, 0),
  (⟨"EatenTollModel", "termOf", "(II)I"⟩, prog_14_method_39_code, 8, (some .int), 2, 0, 0),
  (⟨"java/util/Arrays", "rangeCheck", "(III)V"⟩, prog_22_method_30_code, 3, none, 3, 0, 0),
  (⟨"EatenToll$Mouths", "setBins", "(II)I"⟩, prog_6_method_5_code, 5, (some .int), 2, 1, 20),
  (⟨"EatenToll$Mouths", "setStrides", "(LEatenToll$Plate;)I"⟩, prog_6_method_6_code, 4, (some .int), 1, 1, 26),
  (⟨"EatenToll$Mouths", "withBite", "(III)I"⟩, prog_6_method_7_code, 8, (some .int), 3, 0, 0),
  (⟨"EatenToll$Planner", "worthOf", "(II)I"⟩, prog_7_method_6_code, 6, (some .int), 2, 3, 78),
  (⟨"EatenToll$Tape", "isLetter", "(I)Z"⟩, prog_11_method_10_code, 1, (some .boolean), 1, 0, 0),
  (⟨"EatenToll$Tape", "scanLetters", "(I)I"⟩, prog_11_method_6_code, 6, (some .int), 1, 1, 22),
  (⟨"EatenToll$Tape", "isDigit", "(I)Z"⟩, prog_11_method_11_code, 1, (some .boolean), 1, 0, 0),
  (⟨"EatenToll$Tape", "scanDigits", "(I)I"⟩, prog_11_method_7_code, 4, (some .int), 1, 1, 20),
  (⟨"java/lang/String", "indexOf", "(I)I"⟩, prog_18_method_79_code, 2, (some .int), 1, 3, 71),
  (⟨"EatenToll$Told", "isTold", "(J)Z"⟩, prog_12_method_8_code, 3, (some .boolean), 1, 2, 47),
  (⟨"EatenToll$Told", "setFast", "(III)V"⟩, prog_12_method_16_code, 4, none, 3, 0, 0),
  (⟨"EatenToll$Told", "setHate", "(II)V"⟩, prog_12_method_14_code, 3, none, 2, 0, 0),
  (⟨"EatenToll$Told", "setIll", "(III)V"⟩, prog_12_method_15_code, 4, none, 3, 0, 0),
  (⟨"EatenToll$Told", "manNamed", "(J)I"⟩, prog_12_method_10_code, 3, (some .int), 1, 1, 25),
  (⟨"EatenToll$Reader", "known", "(I)I"⟩, prog_9_method_22_code, 2, (some .int), 1, 1, 21),
  (⟨"EatenToll$Told", "dishNamed", "(J)I"⟩, prog_12_method_9_code, 3, (some .int), 1, 1, 25),
  (⟨"EatenToll$Told", "leadHere", "(I)V"⟩, prog_12_method_22_code, 2, none, 1, 0, 0),
  (⟨"EatenToll$Reader", "waitFor", "(I)V"⟩, prog_9_method_14_code, 2, none, 1, 0, 0),
  (⟨"EatenToll$Reader", "readUnit", "(I)V"⟩, prog_9_method_13_code, 3, none, 1, 1, 23)]
def am_mt7 : List am_R1 := [(⟨"EatenToll$Reader", "strength", "(I)I"⟩, prog_9_method_16_code, 1, (some .int), 1, 0, 0),
  (⟨"EatenToll$Reader", "release", "(I)V"⟩, prog_9_method_15_code, 2, none, 1, 1, 23),
  (⟨"EatenTollModel", "unit", "()V"⟩, prog_14_method_38_code, 1, none, 0, 2, 41),
  (⟨"EatenTollModel", "comesOut", "(Z)V"⟩, prog_14_method_36_code, 3, none, 1, 1, 22),
  (⟨"java/lang/String", "indexOf", "(II)I"⟩, prog_18_method_80_code, 3, (some .int), 2, 2, 49),
  (⟨"EatenToll$Told", "numberOf", "(JII)I"⟩, prog_12_method_11_code, 6, (some .int), 3, 0, 0),
  (⟨"EatenToll$Told", "noteVar", "(II)V"⟩, prog_12_method_23_code, 3, none, 2, 0, 0),
  (⟨"EatenToll$Reader", "stepOf", "(I)I"⟩, prog_9_method_17_code, 1, (some .int), 1, 0, 0),
  (⟨"EatenTollModel", "emit", "(II)V"⟩, prog_14_method_35_code, 3, none, 2, 0, 0),
  (⟨"java/lang/StringLatin1", "indexOf", "([BIII)I"⟩, prog_19_method_22_code, 4, (some .int), 4, 1, 26),
  (⟨"java/lang/StringLatin1", "canEncode", "(I)Z"⟩, prog_19_method_4_code, 1, (some .boolean), 1, 0, 0),
  (⟨"java/lang/StringLatin1", "indexOfChar", "([BIII)I"⟩, prog_19_method_23_code, 6, (some .int), 4, 0, 0)]
def am_mt : List am_R1 := am_mt0 ++ am_mt1 ++ am_mt2 ++ am_mt3 ++ am_mt4 ++ am_mt5 ++ am_mt6 ++ am_mt7
def am_m (k : Nat) : am_R1 := am_mt.getD k (⟨"", "", ""⟩, ⟨#[]⟩, 0, none, 0, 0, 0)
def am_y (k : Nat) : MethodName := (am_m k).1
def am_bc (k : Nat) : ByteArray := (am_m k).2.1
def am_mL (k : Nat) : Nat := (am_m k).2.2.1
def am_rt (k : Nat) : Option FieldType := (am_m k).2.2.2.1
def am_np (k : Nat) : Nat := (am_m k).2.2.2.2.1
def am_fr (k : Nat) : Nat := (am_m k).2.2.2.2.2.1
def am_lo (k : Nat) : Nat := (am_m k).2.2.2.2.2.2
def am_find : List (Nat × am_E) → Nat → Option am_E
  | [], _ => none
  | (p, e) :: r, q => if p = q then some e else am_find r q
