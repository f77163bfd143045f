section
-- ===== PART A: goes FIRST, ahead of the names: the tables' words, and 'selects' of the private methods out of them =====
/-- a private method of a class that the tables say can be made, by its rows of tables_1 -/
def lw_okq (q : MethodName × Nat) : Prop := (q.1.cls ≠ "java/lang/invoke/MethodHandle" ∧ q.1.cls ≠ "java/lang/invoke/VarHandle") ∧ Cond.instantiable q.1.cls q.2 ∈ tables_1 ∧ Cond.privateMethod q.1 ∈ tables_1 ∧ Cond.instanceMethod q.1 ∈ tables_1
theorem lw_p0 : lw_okq (⟨"EatenToll$Tape", "scanToken", "(I)I"⟩, 7) := ⟨⟨by decide +kernel, by decide +kernel⟩, List.mem_of_getElem? (i := 32) (by decide +kernel), List.mem_of_getElem? (i := 579) (by decide +kernel), List.mem_of_getElem? (i := 580) (by decide +kernel)⟩
theorem lw_p1 : lw_okq (⟨"EatenToll$Tape", "scanLetters", "(I)I"⟩, 7) := ⟨⟨by decide +kernel, by decide +kernel⟩, List.mem_of_getElem? (i := 32) (by decide +kernel), List.mem_of_getElem? (i := 586) (by decide +kernel), List.mem_of_getElem? (i := 587) (by decide +kernel)⟩
theorem lw_p2 : lw_okq (⟨"EatenToll$Tape", "scanDigits", "(I)I"⟩, 7) := ⟨⟨by decide +kernel, by decide +kernel⟩, List.mem_of_getElem? (i := 32) (by decide +kernel), List.mem_of_getElem? (i := 593) (by decide +kernel), List.mem_of_getElem? (i := 594) (by decide +kernel)⟩
theorem lw_p3 : lw_okq (⟨"EatenToll$Reader", "readDish", "()V"⟩, 12) := ⟨⟨by decide +kernel, by decide +kernel⟩, List.mem_of_getElem? (i := 224) (by decide +kernel), List.mem_of_getElem? (i := 657) (by decide +kernel), List.mem_of_getElem? (i := 658) (by decide +kernel)⟩
theorem lw_p4 : lw_okq (⟨"EatenToll$Reader", "takeFirst", "(I)V"⟩, 12) := ⟨⟨by decide +kernel, by decide +kernel⟩, List.mem_of_getElem? (i := 224) (by decide +kernel), List.mem_of_getElem? (i := 661) (by decide +kernel), List.mem_of_getElem? (i := 662) (by decide +kernel)⟩
theorem lw_p5 : lw_okq (⟨"EatenToll$Reader", "fail", "(I)V"⟩, 12) := ⟨⟨by decide +kernel, by decide +kernel⟩, List.mem_of_getElem? (i := 224) (by decide +kernel), List.mem_of_getElem? (i := 667) (by decide +kernel), List.mem_of_getElem? (i := 668) (by decide +kernel)⟩
theorem lw_p6 : lw_okq (⟨"EatenToll$Reader", "take", "(I)Z"⟩, 12) := ⟨⟨by decide +kernel, by decide +kernel⟩, List.mem_of_getElem? (i := 224) (by decide +kernel), List.mem_of_getElem? (i := 671) (by decide +kernel), List.mem_of_getElem? (i := 672) (by decide +kernel)⟩
theorem lw_p7 : lw_okq (⟨"EatenToll$Reader", "newName", "()J"⟩, 12) := ⟨⟨by decide +kernel, by decide +kernel⟩, List.mem_of_getElem? (i := 224) (by decide +kernel), List.mem_of_getElem? (i := 675) (by decide +kernel), List.mem_of_getElem? (i := 676) (by decide +kernel)⟩
theorem lw_p8 : lw_okq (⟨"EatenToll$Told", "numberOf", "(JII)I"⟩, 21) := ⟨⟨by decide +kernel, by decide +kernel⟩, List.mem_of_getElem? (i := 120) (by decide +kernel), List.mem_of_getElem? (i := 691) (by decide +kernel), List.mem_of_getElem? (i := 692) (by decide +kernel)⟩
theorem lw_p9 : lw_okq (⟨"EatenToll$Reader", "note", "(I)V"⟩, 12) := ⟨⟨by decide +kernel, by decide +kernel⟩, List.mem_of_getElem? (i := 224) (by decide +kernel), List.mem_of_getElem? (i := 707) (by decide +kernel), List.mem_of_getElem? (i := 708) (by decide +kernel)⟩
theorem lw_p10 : lw_okq (⟨"EatenToll$Reader", "number", "(II)I"⟩, 12) := ⟨⟨by decide +kernel, by decide +kernel⟩, List.mem_of_getElem? (i := 224) (by decide +kernel), List.mem_of_getElem? (i := 711) (by decide +kernel), List.mem_of_getElem? (i := 712) (by decide +kernel)⟩
theorem lw_p11 : lw_okq (⟨"EatenToll$Reader", "readMan", "()V"⟩, 12) := ⟨⟨by decide +kernel, by decide +kernel⟩, List.mem_of_getElem? (i := 224) (by decide +kernel), List.mem_of_getElem? (i := 719) (by decide +kernel), List.mem_of_getElem? (i := 720) (by decide +kernel)⟩
theorem lw_p12 : lw_okq (⟨"EatenToll$Reader", "isTrait", "()Z"⟩, 12) := ⟨⟨by decide +kernel, by decide +kernel⟩, List.mem_of_getElem? (i := 224) (by decide +kernel), List.mem_of_getElem? (i := 733) (by decide +kernel), List.mem_of_getElem? (i := 734) (by decide +kernel)⟩
theorem lw_p13 : lw_okq (⟨"EatenToll$Reader", "readTrait", "(I)V"⟩, 12) := ⟨⟨by decide +kernel, by decide +kernel⟩, List.mem_of_getElem? (i := 224) (by decide +kernel), List.mem_of_getElem? (i := 737) (by decide +kernel), List.mem_of_getElem? (i := 738) (by decide +kernel)⟩
theorem lw_p14 : lw_okq (⟨"EatenToll$Reader", "toldDish", "()I"⟩, 12) := ⟨⟨by decide +kernel, by decide +kernel⟩, List.mem_of_getElem? (i := 224) (by decide +kernel), List.mem_of_getElem? (i := 745) (by decide +kernel), List.mem_of_getElem? (i := 746) (by decide +kernel)⟩
theorem lw_p15 : lw_okq (⟨"EatenToll$Reader", "known", "(I)I"⟩, 12) := ⟨⟨by decide +kernel, by decide +kernel⟩, List.mem_of_getElem? (i := 224) (by decide +kernel), List.mem_of_getElem? (i := 750) (by decide +kernel), List.mem_of_getElem? (i := 751) (by decide +kernel)⟩
def lw_privs_1 : List (MethodName × Nat) := [(⟨"EatenToll$Tape", "scanToken", "(I)I"⟩, 7), (⟨"EatenToll$Tape", "scanLetters", "(I)I"⟩, 7), (⟨"EatenToll$Tape", "scanDigits", "(I)I"⟩, 7), (⟨"EatenToll$Reader", "readDish", "()V"⟩, 12), (⟨"EatenToll$Reader", "takeFirst", "(I)V"⟩, 12), (⟨"EatenToll$Reader", "fail", "(I)V"⟩, 12), (⟨"EatenToll$Reader", "take", "(I)Z"⟩, 12), (⟨"EatenToll$Reader", "newName", "()J"⟩, 12), (⟨"EatenToll$Told", "numberOf", "(JII)I"⟩, 21), (⟨"EatenToll$Reader", "note", "(I)V"⟩, 12), (⟨"EatenToll$Reader", "number", "(II)I"⟩, 12), (⟨"EatenToll$Reader", "readMan", "()V"⟩, 12), (⟨"EatenToll$Reader", "isTrait", "()Z"⟩, 12), (⟨"EatenToll$Reader", "readTrait", "(I)V"⟩, 12), (⟨"EatenToll$Reader", "toldDish", "()I"⟩, 12), (⟨"EatenToll$Reader", "known", "(I)I"⟩, 12)]
theorem lw_r1 : ∀ q ∈ lw_privs_1, lw_okq q := List.forall_mem_cons.mpr ⟨lw_p0, List.forall_mem_cons.mpr ⟨lw_p1, List.forall_mem_cons.mpr ⟨lw_p2, List.forall_mem_cons.mpr ⟨lw_p3, List.forall_mem_cons.mpr ⟨lw_p4, List.forall_mem_cons.mpr ⟨lw_p5, List.forall_mem_cons.mpr ⟨lw_p6, List.forall_mem_cons.mpr ⟨lw_p7, List.forall_mem_cons.mpr ⟨lw_p8, List.forall_mem_cons.mpr ⟨lw_p9, List.forall_mem_cons.mpr ⟨lw_p10, List.forall_mem_cons.mpr ⟨lw_p11, List.forall_mem_cons.mpr ⟨lw_p12, List.forall_mem_cons.mpr ⟨lw_p13, List.forall_mem_cons.mpr ⟨lw_p14, List.forall_mem_cons.mpr ⟨lw_p15, fun _ h => absurd h List.not_mem_nil⟩⟩⟩⟩⟩⟩⟩⟩⟩⟩⟩⟩⟩⟩⟩⟩
theorem lw_p16 : lw_okq (⟨"EatenToll$Reader", "readBelly", "()V"⟩, 12) := ⟨⟨by decide +kernel, by decide +kernel⟩, List.mem_of_getElem? (i := 224) (by decide +kernel), List.mem_of_getElem? (i := 762) (by decide +kernel), List.mem_of_getElem? (i := 763) (by decide +kernel)⟩
theorem lw_p17 : lw_okq (⟨"EatenToll$Reader", "readGoing", "()V"⟩, 12) := ⟨⟨by decide +kernel, by decide +kernel⟩, List.mem_of_getElem? (i := 224) (by decide +kernel), List.mem_of_getElem? (i := 770) (by decide +kernel), List.mem_of_getElem? (i := 771) (by decide +kernel)⟩
theorem lw_p18 : lw_okq (⟨"EatenToll$Reader", "toldMan", "()I"⟩, 12) := ⟨⟨by decide +kernel, by decide +kernel⟩, List.mem_of_getElem? (i := 224) (by decide +kernel), List.mem_of_getElem? (i := 774) (by decide +kernel), List.mem_of_getElem? (i := 775) (by decide +kernel)⟩
theorem lw_p19 : lw_okq (⟨"EatenToll$Reader", "readDebt", "()V"⟩, 12) := ⟨⟨by decide +kernel, by decide +kernel⟩, List.mem_of_getElem? (i := 224) (by decide +kernel), List.mem_of_getElem? (i := 783) (by decide +kernel), List.mem_of_getElem? (i := 784) (by decide +kernel)⟩
theorem lw_p20 : lw_okq (⟨"EatenToll$Reader", "readLaw", "()V"⟩, 12) := ⟨⟨by decide +kernel, by decide +kernel⟩, List.mem_of_getElem? (i := 224) (by decide +kernel), List.mem_of_getElem? (i := 791) (by decide +kernel), List.mem_of_getElem? (i := 792) (by decide +kernel)⟩
theorem lw_p21 : lw_okq (⟨"EatenToll$Reader", "readIf", "(I)V"⟩, 12) := ⟨⟨by decide +kernel, by decide +kernel⟩, List.mem_of_getElem? (i := 224) (by decide +kernel), List.mem_of_getElem? (i := 799) (by decide +kernel), List.mem_of_getElem? (i := 800) (by decide +kernel)⟩
theorem lw_p22 : lw_okq (⟨"EatenToll$Reader", "readExpression", "(I)V"⟩, 12) := ⟨⟨by decide +kernel, by decide +kernel⟩, List.mem_of_getElem? (i := 224) (by decide +kernel), List.mem_of_getElem? (i := 803) (by decide +kernel), List.mem_of_getElem? (i := 804) (by decide +kernel)⟩
theorem lw_p23 : lw_okq (⟨"EatenToll$Reader", "waitFor", "(I)V"⟩, 12) := ⟨⟨by decide +kernel, by decide +kernel⟩, List.mem_of_getElem? (i := 224) (by decide +kernel), List.mem_of_getElem? (i := 807) (by decide +kernel), List.mem_of_getElem? (i := 808) (by decide +kernel)⟩
theorem lw_p24 : lw_okq (⟨"EatenToll$Reader", "readUnit", "(I)V"⟩, 12) := ⟨⟨by decide +kernel, by decide +kernel⟩, List.mem_of_getElem? (i := 224) (by decide +kernel), List.mem_of_getElem? (i := 811) (by decide +kernel), List.mem_of_getElem? (i := 812) (by decide +kernel)⟩
theorem lw_p25 : lw_okq (⟨"EatenToll$Reader", "release", "(I)V"⟩, 12) := ⟨⟨by decide +kernel, by decide +kernel⟩, List.mem_of_getElem? (i := 224) (by decide +kernel), List.mem_of_getElem? (i := 826) (by decide +kernel), List.mem_of_getElem? (i := 827) (by decide +kernel)⟩
theorem lw_p26 : lw_okq (⟨"EatenToll", "isMan", "(I)Z"⟩, 14) := ⟨⟨by decide +kernel, by decide +kernel⟩, List.mem_of_getElem? (i := 24) (by decide +kernel), List.mem_of_getElem? (i := 869) (by decide +kernel), List.mem_of_getElem? (i := 870) (by decide +kernel)⟩
theorem lw_p27 : lw_okq (⟨"EatenToll", "isDish", "(I)Z"⟩, 14) := ⟨⟨by decide +kernel, by decide +kernel⟩, List.mem_of_getElem? (i := 24) (by decide +kernel), List.mem_of_getElem? (i := 894) (by decide +kernel), List.mem_of_getElem? (i := 895) (by decide +kernel)⟩
theorem lw_p28 : lw_okq (⟨"EatenToll", "isDishOrAll", "(I)Z"⟩, 14) := ⟨⟨by decide +kernel, by decide +kernel⟩, List.mem_of_getElem? (i := 24) (by decide +kernel), List.mem_of_getElem? (i := 914) (by decide +kernel), List.mem_of_getElem? (i := 915) (by decide +kernel)⟩
theorem lw_p29 : lw_okq (⟨"EatenToll$Keeper", "valueOf", "(I)I"⟩, 3) := ⟨⟨by decide +kernel, by decide +kernel⟩, List.mem_of_getElem? (i := 323) (by decide +kernel), List.mem_of_getElem? (i := 939) (by decide +kernel), List.mem_of_getElem? (i := 940) (by decide +kernel)⟩
theorem lw_p30 : lw_okq (⟨"EatenToll$Guesser", "mayInTrial", "(IILEatenToll$Plate;)Z"⟩, 9) := ⟨⟨by decide +kernel, by decide +kernel⟩, List.mem_of_getElem? (i := 428) (by decide +kernel), List.mem_of_getElem? (i := 1021) (by decide +kernel), List.mem_of_getElem? (i := 1022) (by decide +kernel)⟩
theorem lw_p31 : lw_okq (⟨"EatenToll$Mouths", "swallowsAll", "(ILEatenToll$Plate;II)Z"⟩, 8) := ⟨⟨by decide +kernel, by decide +kernel⟩, List.mem_of_getElem? (i := 363) (by decide +kernel), List.mem_of_getElem? (i := 1042) (by decide +kernel), List.mem_of_getElem? (i := 1043) (by decide +kernel)⟩
def lw_privs_2 : List (MethodName × Nat) := [(⟨"EatenToll$Reader", "readBelly", "()V"⟩, 12), (⟨"EatenToll$Reader", "readGoing", "()V"⟩, 12), (⟨"EatenToll$Reader", "toldMan", "()I"⟩, 12), (⟨"EatenToll$Reader", "readDebt", "()V"⟩, 12), (⟨"EatenToll$Reader", "readLaw", "()V"⟩, 12), (⟨"EatenToll$Reader", "readIf", "(I)V"⟩, 12), (⟨"EatenToll$Reader", "readExpression", "(I)V"⟩, 12), (⟨"EatenToll$Reader", "waitFor", "(I)V"⟩, 12), (⟨"EatenToll$Reader", "readUnit", "(I)V"⟩, 12), (⟨"EatenToll$Reader", "release", "(I)V"⟩, 12), (⟨"EatenToll", "isMan", "(I)Z"⟩, 14), (⟨"EatenToll", "isDish", "(I)Z"⟩, 14), (⟨"EatenToll", "isDishOrAll", "(I)Z"⟩, 14), (⟨"EatenToll$Keeper", "valueOf", "(I)I"⟩, 3), (⟨"EatenToll$Guesser", "mayInTrial", "(IILEatenToll$Plate;)Z"⟩, 9), (⟨"EatenToll$Mouths", "swallowsAll", "(ILEatenToll$Plate;II)Z"⟩, 8)]
theorem lw_r2 : ∀ q ∈ lw_privs_2, lw_okq q := List.forall_mem_cons.mpr ⟨lw_p16, List.forall_mem_cons.mpr ⟨lw_p17, List.forall_mem_cons.mpr ⟨lw_p18, List.forall_mem_cons.mpr ⟨lw_p19, List.forall_mem_cons.mpr ⟨lw_p20, List.forall_mem_cons.mpr ⟨lw_p21, List.forall_mem_cons.mpr ⟨lw_p22, List.forall_mem_cons.mpr ⟨lw_p23, List.forall_mem_cons.mpr ⟨lw_p24, List.forall_mem_cons.mpr ⟨lw_p25, List.forall_mem_cons.mpr ⟨lw_p26, List.forall_mem_cons.mpr ⟨lw_p27, List.forall_mem_cons.mpr ⟨lw_p28, List.forall_mem_cons.mpr ⟨lw_p29, List.forall_mem_cons.mpr ⟨lw_p30, List.forall_mem_cons.mpr ⟨lw_p31, fun _ h => absurd h List.not_mem_nil⟩⟩⟩⟩⟩⟩⟩⟩⟩⟩⟩⟩⟩⟩⟩⟩
theorem lw_p32 : lw_okq (⟨"EatenToll$Mouths", "setBins", "(II)I"⟩, 8) := ⟨⟨by decide +kernel, by decide +kernel⟩, List.mem_of_getElem? (i := 363) (by decide +kernel), List.mem_of_getElem? (i := 1046) (by decide +kernel), List.mem_of_getElem? (i := 1047) (by decide +kernel)⟩
theorem lw_p33 : lw_okq (⟨"EatenToll$Mouths", "setStrides", "(LEatenToll$Plate;)I"⟩, 8) := ⟨⟨by decide +kernel, by decide +kernel⟩, List.mem_of_getElem? (i := 363) (by decide +kernel), List.mem_of_getElem? (i := 1050) (by decide +kernel), List.mem_of_getElem? (i := 1051) (by decide +kernel)⟩
theorem lw_p34 : lw_okq (⟨"EatenToll$Mouths", "withBite", "(III)I"⟩, 8) := ⟨⟨by decide +kernel, by decide +kernel⟩, List.mem_of_getElem? (i := 363) (by decide +kernel), List.mem_of_getElem? (i := 1058) (by decide +kernel), List.mem_of_getElem? (i := 1059) (by decide +kernel)⟩
theorem lw_p35 : lw_okq (⟨"EatenToll$Mouths", "offer", "(III)V"⟩, 8) := ⟨⟨by decide +kernel, by decide +kernel⟩, List.mem_of_getElem? (i := 363) (by decide +kernel), List.mem_of_getElem? (i := 1093) (by decide +kernel), List.mem_of_getElem? (i := 1094) (by decide +kernel)⟩
theorem lw_p36 : lw_okq (⟨"EatenToll", "isSet", "(I)Z"⟩, 14) := ⟨⟨by decide +kernel, by decide +kernel⟩, List.mem_of_getElem? (i := 24) (by decide +kernel), List.mem_of_getElem? (i := 1108) (by decide +kernel), List.mem_of_getElem? (i := 1109) (by decide +kernel)⟩
theorem lw_p37 : lw_okq (⟨"EatenToll$Planner", "planHour", "()V"⟩, 9) := ⟨⟨by decide +kernel, by decide +kernel⟩, List.mem_of_getElem? (i := 394) (by decide +kernel), List.mem_of_getElem? (i := 1120) (by decide +kernel), List.mem_of_getElem? (i := 1121) (by decide +kernel)⟩
theorem lw_p38 : lw_okq (⟨"EatenToll$Planner", "worthOf", "(II)I"⟩, 9) := ⟨⟨by decide +kernel, by decide +kernel⟩, List.mem_of_getElem? (i := 394) (by decide +kernel), List.mem_of_getElem? (i := 1131) (by decide +kernel), List.mem_of_getElem? (i := 1132) (by decide +kernel)⟩
theorem lw_p39 : lw_okq (⟨"EatenToll$Guesser", "eatersOf", "(LEatenToll$Scene;I)I"⟩, 9) := ⟨⟨by decide +kernel, by decide +kernel⟩, List.mem_of_getElem? (i := 428) (by decide +kernel), List.mem_of_getElem? (i := 1178) (by decide +kernel), List.mem_of_getElem? (i := 1179) (by decide +kernel)⟩
theorem lw_p40 : lw_okq (⟨"EatenToll$Guesser", "layByNumber", "(I)V"⟩, 9) := ⟨⟨by decide +kernel, by decide +kernel⟩, List.mem_of_getElem? (i := 428) (by decide +kernel), List.mem_of_getElem? (i := 1186) (by decide +kernel), List.mem_of_getElem? (i := 1187) (by decide +kernel)⟩
theorem lw_p41 : lw_okq (⟨"EatenToll$Guesser", "servedFrom", "(LEatenToll$Scene;)I"⟩, 9) := ⟨⟨by decide +kernel, by decide +kernel⟩, List.mem_of_getElem? (i := 428) (by decide +kernel), List.mem_of_getElem? (i := 1193) (by decide +kernel), List.mem_of_getElem? (i := 1194) (by decide +kernel)⟩
theorem lw_p42 : lw_okq (⟨"EatenToll$Guesser", "whoSwallow", "(LEatenToll$Scene;I)I"⟩, 9) := ⟨⟨by decide +kernel, by decide +kernel⟩, List.mem_of_getElem? (i := 428) (by decide +kernel), List.mem_of_getElem? (i := 1199) (by decide +kernel), List.mem_of_getElem? (i := 1200) (by decide +kernel)⟩
theorem lw_p43 : lw_okq (⟨"EatenToll$Guesser", "goByHimself", "(I)V"⟩, 9) := ⟨⟨by decide +kernel, by decide +kernel⟩, List.mem_of_getElem? (i := 428) (by decide +kernel), List.mem_of_getElem? (i := 1217) (by decide +kernel), List.mem_of_getElem? (i := 1218) (by decide +kernel)⟩
theorem lw_p44 : lw_okq (⟨"EatenToll$Book", "whyRefused", "(I)I"⟩, 9) := ⟨⟨by decide +kernel, by decide +kernel⟩, List.mem_of_getElem? (i := 466) (by decide +kernel), List.mem_of_getElem? (i := 1270) (by decide +kernel), List.mem_of_getElem? (i := 1271) (by decide +kernel)⟩
theorem lw_p45 : lw_okq (⟨"EatenTollModel", "put", "(I)V"⟩, 88) := ⟨⟨by decide +kernel, by decide +kernel⟩, List.mem_of_getElem? (i := 1321) (by decide +kernel), List.mem_of_getElem? (i := 1603) (by decide +kernel), List.mem_of_getElem? (i := 1604) (by decide +kernel)⟩
theorem lw_p46 : lw_okq (⟨"EatenTollModel", "cut", "()V"⟩, 88) := ⟨⟨by decide +kernel, by decide +kernel⟩, List.mem_of_getElem? (i := 1321) (by decide +kernel), List.mem_of_getElem? (i := 1615) (by decide +kernel), List.mem_of_getElem? (i := 1616) (by decide +kernel)⟩
theorem lw_p47 : lw_okq (⟨"EatenTollModel", "byteAt", "(I)I"⟩, 88) := ⟨⟨by decide +kernel, by decide +kernel⟩, List.mem_of_getElem? (i := 1321) (by decide +kernel), List.mem_of_getElem? (i := 1619) (by decide +kernel), List.mem_of_getElem? (i := 1620) (by decide +kernel)⟩
def lw_privs_3 : List (MethodName × Nat) := [(⟨"EatenToll$Mouths", "setBins", "(II)I"⟩, 8), (⟨"EatenToll$Mouths", "setStrides", "(LEatenToll$Plate;)I"⟩, 8), (⟨"EatenToll$Mouths", "withBite", "(III)I"⟩, 8), (⟨"EatenToll$Mouths", "offer", "(III)V"⟩, 8), (⟨"EatenToll", "isSet", "(I)Z"⟩, 14), (⟨"EatenToll$Planner", "planHour", "()V"⟩, 9), (⟨"EatenToll$Planner", "worthOf", "(II)I"⟩, 9), (⟨"EatenToll$Guesser", "eatersOf", "(LEatenToll$Scene;I)I"⟩, 9), (⟨"EatenToll$Guesser", "layByNumber", "(I)V"⟩, 9), (⟨"EatenToll$Guesser", "servedFrom", "(LEatenToll$Scene;)I"⟩, 9), (⟨"EatenToll$Guesser", "whoSwallow", "(LEatenToll$Scene;I)I"⟩, 9), (⟨"EatenToll$Guesser", "goByHimself", "(I)V"⟩, 9), (⟨"EatenToll$Book", "whyRefused", "(I)I"⟩, 9), (⟨"EatenTollModel", "put", "(I)V"⟩, 88), (⟨"EatenTollModel", "cut", "()V"⟩, 88), (⟨"EatenTollModel", "byteAt", "(I)I"⟩, 88)]
theorem lw_r3 : ∀ q ∈ lw_privs_3, lw_okq q := List.forall_mem_cons.mpr ⟨lw_p32, List.forall_mem_cons.mpr ⟨lw_p33, List.forall_mem_cons.mpr ⟨lw_p34, List.forall_mem_cons.mpr ⟨lw_p35, List.forall_mem_cons.mpr ⟨lw_p36, List.forall_mem_cons.mpr ⟨lw_p37, List.forall_mem_cons.mpr ⟨lw_p38, List.forall_mem_cons.mpr ⟨lw_p39, List.forall_mem_cons.mpr ⟨lw_p40, List.forall_mem_cons.mpr ⟨lw_p41, List.forall_mem_cons.mpr ⟨lw_p42, List.forall_mem_cons.mpr ⟨lw_p43, List.forall_mem_cons.mpr ⟨lw_p44, List.forall_mem_cons.mpr ⟨lw_p45, List.forall_mem_cons.mpr ⟨lw_p46, List.forall_mem_cons.mpr ⟨lw_p47, fun _ h => absurd h List.not_mem_nil⟩⟩⟩⟩⟩⟩⟩⟩⟩⟩⟩⟩⟩⟩⟩⟩
theorem lw_p48 : lw_okq (⟨"EatenTollModel", "token", "(IIIJ)V"⟩, 88) := ⟨⟨by decide +kernel, by decide +kernel⟩, List.mem_of_getElem? (i := 1321) (by decide +kernel), List.mem_of_getElem? (i := 1623) (by decide +kernel), List.mem_of_getElem? (i := 1624) (by decide +kernel)⟩
theorem lw_p49 : lw_okq (⟨"EatenTollModel", "sign", "(III)I"⟩, 88) := ⟨⟨by decide +kernel, by decide +kernel⟩, List.mem_of_getElem? (i := 1321) (by decide +kernel), List.mem_of_getElem? (i := 1633) (by decide +kernel), List.mem_of_getElem? (i := 1634) (by decide +kernel)⟩
theorem lw_p50 : lw_okq (⟨"EatenTollModel", "is", "(I)Z"⟩, 88) := ⟨⟨by decide +kernel, by decide +kernel⟩, List.mem_of_getElem? (i := 1321) (by decide +kernel), List.mem_of_getElem? (i := 1637) (by decide +kernel), List.mem_of_getElem? (i := 1638) (by decide +kernel)⟩
theorem lw_p51 : lw_okq (⟨"EatenTollModel", "tell", "()V"⟩, 88) := ⟨⟨by decide +kernel, by decide +kernel⟩, List.mem_of_getElem? (i := 1321) (by decide +kernel), List.mem_of_getElem? (i := 1641) (by decide +kernel), List.mem_of_getElem? (i := 1642) (by decide +kernel)⟩
theorem lw_p52 : lw_okq (⟨"EatenTollModel", "roomFor", "(II)V"⟩, 88) := ⟨⟨by decide +kernel, by decide +kernel⟩, List.mem_of_getElem? (i := 1321) (by decide +kernel), List.mem_of_getElem? (i := 1645) (by decide +kernel), List.mem_of_getElem? (i := 1646) (by decide +kernel)⟩
theorem lw_p53 : lw_okq (⟨"EatenTollModel", "fail", "(I)V"⟩, 88) := ⟨⟨by decide +kernel, by decide +kernel⟩, List.mem_of_getElem? (i := 1321) (by decide +kernel), List.mem_of_getElem? (i := 1649) (by decide +kernel), List.mem_of_getElem? (i := 1650) (by decide +kernel)⟩
theorem lw_p54 : lw_okq (⟨"EatenTollModel", "goesOn", "()V"⟩, 88) := ⟨⟨by decide +kernel, by decide +kernel⟩, List.mem_of_getElem? (i := 1321) (by decide +kernel), List.mem_of_getElem? (i := 1653) (by decide +kernel), List.mem_of_getElem? (i := 1654) (by decide +kernel)⟩
theorem lw_p55 : lw_okq (⟨"EatenTollModel", "tellDish", "()V"⟩, 88) := ⟨⟨by decide +kernel, by decide +kernel⟩, List.mem_of_getElem? (i := 1321) (by decide +kernel), List.mem_of_getElem? (i := 1657) (by decide +kernel), List.mem_of_getElem? (i := 1658) (by decide +kernel)⟩
theorem lw_p56 : lw_okq (⟨"EatenTollModel", "named", "()I"⟩, 88) := ⟨⟨by decide +kernel, by decide +kernel⟩, List.mem_of_getElem? (i := 1321) (by decide +kernel), List.mem_of_getElem? (i := 1661) (by decide +kernel), List.mem_of_getElem? (i := 1662) (by decide +kernel)⟩
theorem lw_p57 : lw_okq (⟨"EatenTollModel", "must", "(I)V"⟩, 88) := ⟨⟨by decide +kernel, by decide +kernel⟩, List.mem_of_getElem? (i := 1321) (by decide +kernel), List.mem_of_getElem? (i := 1665) (by decide +kernel), List.mem_of_getElem? (i := 1666) (by decide +kernel)⟩
theorem lw_p58 : lw_okq (⟨"EatenTollModel", "wrong", "(II)V"⟩, 88) := ⟨⟨by decide +kernel, by decide +kernel⟩, List.mem_of_getElem? (i := 1321) (by decide +kernel), List.mem_of_getElem? (i := 1669) (by decide +kernel), List.mem_of_getElem? (i := 1670) (by decide +kernel)⟩
theorem lw_p59 : lw_okq (⟨"EatenTollModel", "bounded", "(II)I"⟩, 88) := ⟨⟨by decide +kernel, by decide +kernel⟩, List.mem_of_getElem? (i := 1321) (by decide +kernel), List.mem_of_getElem? (i := 1673) (by decide +kernel), List.mem_of_getElem? (i := 1674) (by decide +kernel)⟩
theorem lw_p60 : lw_okq (⟨"EatenTollModel", "notes", "(III)V"⟩, 88) := ⟨⟨by decide +kernel, by decide +kernel⟩, List.mem_of_getElem? (i := 1321) (by decide +kernel), List.mem_of_getElem? (i := 1677) (by decide +kernel), List.mem_of_getElem? (i := 1678) (by decide +kernel)⟩
theorem lw_p61 : lw_okq (⟨"EatenTollModel", "tellMan", "()V"⟩, 88) := ⟨⟨by decide +kernel, by decide +kernel⟩, List.mem_of_getElem? (i := 1321) (by decide +kernel), List.mem_of_getElem? (i := 1681) (by decide +kernel), List.mem_of_getElem? (i := 1682) (by decide +kernel)⟩
theorem lw_p62 : lw_okq (⟨"EatenTollModel", "tellTrait", "(I)V"⟩, 88) := ⟨⟨by decide +kernel, by decide +kernel⟩, List.mem_of_getElem? (i := 1321) (by decide +kernel), List.mem_of_getElem? (i := 1685) (by decide +kernel), List.mem_of_getElem? (i := 1686) (by decide +kernel)⟩
theorem lw_p63 : lw_okq (⟨"EatenTollModel", "known", "(I)I"⟩, 88) := ⟨⟨by decide +kernel, by decide +kernel⟩, List.mem_of_getElem? (i := 1321) (by decide +kernel), List.mem_of_getElem? (i := 1689) (by decide +kernel), List.mem_of_getElem? (i := 1690) (by decide +kernel)⟩
def lw_privs_4 : List (MethodName × Nat) := [(⟨"EatenTollModel", "token", "(IIIJ)V"⟩, 88), (⟨"EatenTollModel", "sign", "(III)I"⟩, 88), (⟨"EatenTollModel", "is", "(I)Z"⟩, 88), (⟨"EatenTollModel", "tell", "()V"⟩, 88), (⟨"EatenTollModel", "roomFor", "(II)V"⟩, 88), (⟨"EatenTollModel", "fail", "(I)V"⟩, 88), (⟨"EatenTollModel", "goesOn", "()V"⟩, 88), (⟨"EatenTollModel", "tellDish", "()V"⟩, 88), (⟨"EatenTollModel", "named", "()I"⟩, 88), (⟨"EatenTollModel", "must", "(I)V"⟩, 88), (⟨"EatenTollModel", "wrong", "(II)V"⟩, 88), (⟨"EatenTollModel", "bounded", "(II)I"⟩, 88), (⟨"EatenTollModel", "notes", "(III)V"⟩, 88), (⟨"EatenTollModel", "tellMan", "()V"⟩, 88), (⟨"EatenTollModel", "tellTrait", "(I)V"⟩, 88), (⟨"EatenTollModel", "known", "(I)I"⟩, 88)]
theorem lw_r4 : ∀ q ∈ lw_privs_4, lw_okq q := List.forall_mem_cons.mpr ⟨lw_p48, List.forall_mem_cons.mpr ⟨lw_p49, List.forall_mem_cons.mpr ⟨lw_p50, List.forall_mem_cons.mpr ⟨lw_p51, List.forall_mem_cons.mpr ⟨lw_p52, List.forall_mem_cons.mpr ⟨lw_p53, List.forall_mem_cons.mpr ⟨lw_p54, List.forall_mem_cons.mpr ⟨lw_p55, List.forall_mem_cons.mpr ⟨lw_p56, List.forall_mem_cons.mpr ⟨lw_p57, List.forall_mem_cons.mpr ⟨lw_p58, List.forall_mem_cons.mpr ⟨lw_p59, List.forall_mem_cons.mpr ⟨lw_p60, List.forall_mem_cons.mpr ⟨lw_p61, List.forall_mem_cons.mpr ⟨lw_p62, List.forall_mem_cons.mpr ⟨lw_p63, fun _ h => absurd h List.not_mem_nil⟩⟩⟩⟩⟩⟩⟩⟩⟩⟩⟩⟩⟩⟩⟩⟩
theorem lw_p64 : lw_okq (⟨"EatenTollModel", "tellLaw", "()V"⟩, 88) := ⟨⟨by decide +kernel, by decide +kernel⟩, List.mem_of_getElem? (i := 1321) (by decide +kernel), List.mem_of_getElem? (i := 1693) (by decide +kernel), List.mem_of_getElem? (i := 1694) (by decide +kernel)⟩
theorem lw_p65 : lw_okq (⟨"EatenTollModel", "expression", "()V"⟩, 88) := ⟨⟨by decide +kernel, by decide +kernel⟩, List.mem_of_getElem? (i := 1321) (by decide +kernel), List.mem_of_getElem? (i := 1697) (by decide +kernel), List.mem_of_getElem? (i := 1698) (by decide +kernel)⟩
theorem lw_p66 : lw_okq (⟨"EatenTollModel", "unit", "()V"⟩, 88) := ⟨⟨by decide +kernel, by decide +kernel⟩, List.mem_of_getElem? (i := 1321) (by decide +kernel), List.mem_of_getElem? (i := 1701) (by decide +kernel), List.mem_of_getElem? (i := 1702) (by decide +kernel)⟩
theorem lw_p67 : lw_okq (⟨"EatenTollModel", "emit", "(II)V"⟩, 88) := ⟨⟨by decide +kernel, by decide +kernel⟩, List.mem_of_getElem? (i := 1321) (by decide +kernel), List.mem_of_getElem? (i := 1705) (by decide +kernel), List.mem_of_getElem? (i := 1706) (by decide +kernel)⟩
theorem lw_p68 : lw_okq (⟨"EatenTollModel", "comesOut", "(Z)V"⟩, 88) := ⟨⟨by decide +kernel, by decide +kernel⟩, List.mem_of_getElem? (i := 1321) (by decide +kernel), List.mem_of_getElem? (i := 1709) (by decide +kernel), List.mem_of_getElem? (i := 1710) (by decide +kernel)⟩
theorem lw_p69 : lw_okq (⟨"EatenTollModel", "term", "()V"⟩, 88) := ⟨⟨by decide +kernel, by decide +kernel⟩, List.mem_of_getElem? (i := 1321) (by decide +kernel), List.mem_of_getElem? (i := 1713) (by decide +kernel), List.mem_of_getElem? (i := 1714) (by decide +kernel)⟩
theorem lw_p70 : lw_okq (⟨"EatenTollModel", "tellBelly", "()V"⟩, 88) := ⟨⟨by decide +kernel, by decide +kernel⟩, List.mem_of_getElem? (i := 1321) (by decide +kernel), List.mem_of_getElem? (i := 1717) (by decide +kernel), List.mem_of_getElem? (i := 1718) (by decide +kernel)⟩
theorem lw_p71 : lw_okq (⟨"EatenTollModel", "tellGoing", "()V"⟩, 88) := ⟨⟨by decide +kernel, by decide +kernel⟩, List.mem_of_getElem? (i := 1321) (by decide +kernel), List.mem_of_getElem? (i := 1721) (by decide +kernel), List.mem_of_getElem? (i := 1722) (by decide +kernel)⟩
theorem lw_p72 : lw_okq (⟨"EatenTollModel", "tellDebt", "()V"⟩, 88) := ⟨⟨by decide +kernel, by decide +kernel⟩, List.mem_of_getElem? (i := 1321) (by decide +kernel), List.mem_of_getElem? (i := 1725) (by decide +kernel), List.mem_of_getElem? (i := 1726) (by decide +kernel)⟩
theorem lw_p73 : lw_okq (⟨"EatenTollModel", "begins", "()V"⟩, 88) := ⟨⟨by decide +kernel, by decide +kernel⟩, List.mem_of_getElem? (i := 1321) (by decide +kernel), List.mem_of_getElem? (i := 1729) (by decide +kernel), List.mem_of_getElem? (i := 1730) (by decide +kernel)⟩
theorem lw_p74 : lw_okq (⟨"EatenTollModel", "menNow", "()I"⟩, 88) := ⟨⟨by decide +kernel, by decide +kernel⟩, List.mem_of_getElem? (i := 1321) (by decide +kernel), List.mem_of_getElem? (i := 1733) (by decide +kernel), List.mem_of_getElem? (i := 1734) (by decide +kernel)⟩
theorem lw_p75 : lw_okq (⟨"EatenTollModel", "kinds", "()I"⟩, 88) := ⟨⟨by decide +kernel, by decide +kernel⟩, List.mem_of_getElem? (i := 1321) (by decide +kernel), List.mem_of_getElem? (i := 1737) (by decide +kernel), List.mem_of_getElem? (i := 1738) (by decide +kernel)⟩
theorem lw_p76 : lw_okq (⟨"EatenTollModel", "isMan", "(I)Z"⟩, 88) := ⟨⟨by decide +kernel, by decide +kernel⟩, List.mem_of_getElem? (i := 1321) (by decide +kernel), List.mem_of_getElem? (i := 1749) (by decide +kernel), List.mem_of_getElem? (i := 1750) (by decide +kernel)⟩
theorem lw_p77 : lw_okq (⟨"EatenTollModel", "isDish", "(I)Z"⟩, 88) := ⟨⟨by decide +kernel, by decide +kernel⟩, List.mem_of_getElem? (i := 1321) (by decide +kernel), List.mem_of_getElem? (i := 1760) (by decide +kernel), List.mem_of_getElem? (i := 1761) (by decide +kernel)⟩
theorem lw_p78 : lw_okq (⟨"EatenTollModel", "takes", "()V"⟩, 88) := ⟨⟨by decide +kernel, by decide +kernel⟩, List.mem_of_getElem? (i := 1321) (by decide +kernel), List.mem_of_getElem? (i := 1771) (by decide +kernel), List.mem_of_getElem? (i := 1772) (by decide +kernel)⟩
theorem lw_p79 : lw_okq (⟨"EatenTollModel", "tolls", "(III)V"⟩, 88) := ⟨⟨by decide +kernel, by decide +kernel⟩, List.mem_of_getElem? (i := 1321) (by decide +kernel), List.mem_of_getElem? (i := 1775) (by decide +kernel), List.mem_of_getElem? (i := 1776) (by decide +kernel)⟩
def lw_privs_5 : List (MethodName × Nat) := [(⟨"EatenTollModel", "tellLaw", "()V"⟩, 88), (⟨"EatenTollModel", "expression", "()V"⟩, 88), (⟨"EatenTollModel", "unit", "()V"⟩, 88), (⟨"EatenTollModel", "emit", "(II)V"⟩, 88), (⟨"EatenTollModel", "comesOut", "(Z)V"⟩, 88), (⟨"EatenTollModel", "term", "()V"⟩, 88), (⟨"EatenTollModel", "tellBelly", "()V"⟩, 88), (⟨"EatenTollModel", "tellGoing", "()V"⟩, 88), (⟨"EatenTollModel", "tellDebt", "()V"⟩, 88), (⟨"EatenTollModel", "begins", "()V"⟩, 88), (⟨"EatenTollModel", "menNow", "()I"⟩, 88), (⟨"EatenTollModel", "kinds", "()I"⟩, 88), (⟨"EatenTollModel", "isMan", "(I)Z"⟩, 88), (⟨"EatenTollModel", "isDish", "(I)Z"⟩, 88), (⟨"EatenTollModel", "takes", "()V"⟩, 88), (⟨"EatenTollModel", "tolls", "(III)V"⟩, 88)]
theorem lw_r5 : ∀ q ∈ lw_privs_5, lw_okq q := List.forall_mem_cons.mpr ⟨lw_p64, List.forall_mem_cons.mpr ⟨lw_p65, List.forall_mem_cons.mpr ⟨lw_p66, List.forall_mem_cons.mpr ⟨lw_p67, List.forall_mem_cons.mpr ⟨lw_p68, List.forall_mem_cons.mpr ⟨lw_p69, List.forall_mem_cons.mpr ⟨lw_p70, List.forall_mem_cons.mpr ⟨lw_p71, List.forall_mem_cons.mpr ⟨lw_p72, List.forall_mem_cons.mpr ⟨lw_p73, List.forall_mem_cons.mpr ⟨lw_p74, List.forall_mem_cons.mpr ⟨lw_p75, List.forall_mem_cons.mpr ⟨lw_p76, List.forall_mem_cons.mpr ⟨lw_p77, List.forall_mem_cons.mpr ⟨lw_p78, List.forall_mem_cons.mpr ⟨lw_p79, fun _ h => absurd h List.not_mem_nil⟩⟩⟩⟩⟩⟩⟩⟩⟩⟩⟩⟩⟩⟩⟩⟩
theorem lw_p80 : lw_okq (⟨"EatenTollModel", "room", "(I)I"⟩, 88) := ⟨⟨by decide +kernel, by decide +kernel⟩, List.mem_of_getElem? (i := 1321) (by decide +kernel), List.mem_of_getElem? (i := 1779) (by decide +kernel), List.mem_of_getElem? (i := 1780) (by decide +kernel)⟩
theorem lw_p81 : lw_okq (⟨"EatenTollModel", "laid", "(I)I"⟩, 88) := ⟨⟨by decide +kernel, by decide +kernel⟩, List.mem_of_getElem? (i := 1321) (by decide +kernel), List.mem_of_getElem? (i := 1783) (by decide +kernel), List.mem_of_getElem? (i := 1784) (by decide +kernel)⟩
theorem lw_p82 : lw_okq (⟨"EatenTollModel", "termOf", "(II)I"⟩, 88) := ⟨⟨by decide +kernel, by decide +kernel⟩, List.mem_of_getElem? (i := 1321) (by decide +kernel), List.mem_of_getElem? (i := 1787) (by decide +kernel), List.mem_of_getElem? (i := 1788) (by decide +kernel)⟩
theorem lw_p83 : lw_okq (⟨"EatenTollModel", "bulkNow", "()I"⟩, 88) := ⟨⟨by decide +kernel, by decide +kernel⟩, List.mem_of_getElem? (i := 1321) (by decide +kernel), List.mem_of_getElem? (i := 1791) (by decide +kernel), List.mem_of_getElem? (i := 1792) (by decide +kernel)⟩
theorem lw_p84 : lw_okq (⟨"EatenTollModel", "mayNow", "(II)I"⟩, 88) := ⟨⟨by decide +kernel, by decide +kernel⟩, List.mem_of_getElem? (i := 1321) (by decide +kernel), List.mem_of_getElem? (i := 1799) (by decide +kernel), List.mem_of_getElem? (i := 1800) (by decide +kernel)⟩
theorem lw_p85 : lw_okq (⟨"EatenTollModel", "why", "(IZ)I"⟩, 88) := ⟨⟨by decide +kernel, by decide +kernel⟩, List.mem_of_getElem? (i := 1321) (by decide +kernel), List.mem_of_getElem? (i := 1803) (by decide +kernel), List.mem_of_getElem? (i := 1804) (by decide +kernel)⟩
theorem lw_p86 : lw_okq (⟨"EatenTollModel", "fasts", "(I)Z"⟩, 88) := ⟨⟨by decide +kernel, by decide +kernel⟩, List.mem_of_getElem? (i := 1321) (by decide +kernel), List.mem_of_getElem? (i := 1807) (by decide +kernel), List.mem_of_getElem? (i := 1808) (by decide +kernel)⟩
theorem lw_p87 : lw_okq (⟨"EatenTollModel", "bitesNow", "()I"⟩, 88) := ⟨⟨by decide +kernel, by decide +kernel⟩, List.mem_of_getElem? (i := 1321) (by decide +kernel), List.mem_of_getElem? (i := 1811) (by decide +kernel), List.mem_of_getElem? (i := 1812) (by decide +kernel)⟩
theorem lw_p88 : lw_okq (⟨"EatenTollModel", "isHated", "(II)Z"⟩, 88) := ⟨⟨by decide +kernel, by decide +kernel⟩, List.mem_of_getElem? (i := 1321) (by decide +kernel), List.mem_of_getElem? (i := 1815) (by decide +kernel), List.mem_of_getElem? (i := 1816) (by decide +kernel)⟩
theorem lw_p89 : lw_okq (⟨"EatenTollModel", "hasStores", "()Z"⟩, 88) := ⟨⟨by decide +kernel, by decide +kernel⟩, List.mem_of_getElem? (i := 1321) (by decide +kernel), List.mem_of_getElem? (i := 1819) (by decide +kernel), List.mem_of_getElem? (i := 1820) (by decide +kernel)⟩
theorem lw_p90 : lw_okq (⟨"EatenTollModel", "swallows", "(II)V"⟩, 88) := ⟨⟨by decide +kernel, by decide +kernel⟩, List.mem_of_getElem? (i := 1321) (by decide +kernel), List.mem_of_getElem? (i := 1827) (by decide +kernel), List.mem_of_getElem? (i := 1828) (by decide +kernel)⟩
theorem lw_p91 : lw_okq (⟨"EatenTollModel", "gainNow", "()I"⟩, 88) := ⟨⟨by decide +kernel, by decide +kernel⟩, List.mem_of_getElem? (i := 1321) (by decide +kernel), List.mem_of_getElem? (i := 1831) (by decide +kernel), List.mem_of_getElem? (i := 1832) (by decide +kernel)⟩
theorem lw_p92 : lw_okq (⟨"EatenTollModel", "keeps", "()V"⟩, 88) := ⟨⟨by decide +kernel, by decide +kernel⟩, List.mem_of_getElem? (i := 1321) (by decide +kernel), List.mem_of_getElem? (i := 1835) (by decide +kernel), List.mem_of_getElem? (i := 1836) (by decide +kernel)⟩
theorem lw_p93 : lw_okq (⟨"EatenTollModel", "hourGoes", "()V"⟩, 88) := ⟨⟨by decide +kernel, by decide +kernel⟩, List.mem_of_getElem? (i := 1321) (by decide +kernel), List.mem_of_getElem? (i := 1843) (by decide +kernel), List.mem_of_getElem? (i := 1844) (by decide +kernel)⟩
theorem lw_p94 : lw_okq (⟨"EatenTollModel", "hires", "(II)I"⟩, 88) := ⟨⟨by decide +kernel, by decide +kernel⟩, List.mem_of_getElem? (i := 1321) (by decide +kernel), List.mem_of_getElem? (i := 1859) (by decide +kernel), List.mem_of_getElem? (i := 1860) (by decide +kernel)⟩
theorem lw_p95 : lw_okq (⟨"EatenTollModel", "eats", "(I)I"⟩, 88) := ⟨⟨by decide +kernel, by decide +kernel⟩, List.mem_of_getElem? (i := 1321) (by decide +kernel), List.mem_of_getElem? (i := 1866) (by decide +kernel), List.mem_of_getElem? (i := 1867) (by decide +kernel)⟩
def lw_privs_6 : List (MethodName × Nat) := [(⟨"EatenTollModel", "room", "(I)I"⟩, 88), (⟨"EatenTollModel", "laid", "(I)I"⟩, 88), (⟨"EatenTollModel", "termOf", "(II)I"⟩, 88), (⟨"EatenTollModel", "bulkNow", "()I"⟩, 88), (⟨"EatenTollModel", "mayNow", "(II)I"⟩, 88), (⟨"EatenTollModel", "why", "(IZ)I"⟩, 88), (⟨"EatenTollModel", "fasts", "(I)Z"⟩, 88), (⟨"EatenTollModel", "bitesNow", "()I"⟩, 88), (⟨"EatenTollModel", "isHated", "(II)Z"⟩, 88), (⟨"EatenTollModel", "hasStores", "()Z"⟩, 88), (⟨"EatenTollModel", "swallows", "(II)V"⟩, 88), (⟨"EatenTollModel", "gainNow", "()I"⟩, 88), (⟨"EatenTollModel", "keeps", "()V"⟩, 88), (⟨"EatenTollModel", "hourGoes", "()V"⟩, 88), (⟨"EatenTollModel", "hires", "(II)I"⟩, 88), (⟨"EatenTollModel", "eats", "(I)I"⟩, 88)]
theorem lw_r6 : ∀ q ∈ lw_privs_6, lw_okq q := List.forall_mem_cons.mpr ⟨lw_p80, List.forall_mem_cons.mpr ⟨lw_p81, List.forall_mem_cons.mpr ⟨lw_p82, List.forall_mem_cons.mpr ⟨lw_p83, List.forall_mem_cons.mpr ⟨lw_p84, List.forall_mem_cons.mpr ⟨lw_p85, List.forall_mem_cons.mpr ⟨lw_p86, List.forall_mem_cons.mpr ⟨lw_p87, List.forall_mem_cons.mpr ⟨lw_p88, List.forall_mem_cons.mpr ⟨lw_p89, List.forall_mem_cons.mpr ⟨lw_p90, List.forall_mem_cons.mpr ⟨lw_p91, List.forall_mem_cons.mpr ⟨lw_p92, List.forall_mem_cons.mpr ⟨lw_p93, List.forall_mem_cons.mpr ⟨lw_p94, List.forall_mem_cons.mpr ⟨lw_p95, fun _ h => absurd h List.not_mem_nil⟩⟩⟩⟩⟩⟩⟩⟩⟩⟩⟩⟩⟩⟩⟩⟩
theorem lw_p96 : lw_okq (⟨"EatenTollModel", "oneSwallows", "(III)V"⟩, 88) := ⟨⟨by decide +kernel, by decide +kernel⟩, List.mem_of_getElem? (i := 1321) (by decide +kernel), List.mem_of_getElem? (i := 1870) (by decide +kernel), List.mem_of_getElem? (i := 1871) (by decide +kernel)⟩
theorem lw_p97 : lw_okq (⟨"EatenTollModel", "splits", "(III)I"⟩, 88) := ⟨⟨by decide +kernel, by decide +kernel⟩, List.mem_of_getElem? (i := 1321) (by decide +kernel), List.mem_of_getElem? (i := 1885) (by decide +kernel), List.mem_of_getElem? (i := 1886) (by decide +kernel)⟩
theorem lw_p98 : lw_okq (⟨"EatenTollModel", "isSet", "(I)Z"⟩, 88) := ⟨⟨by decide +kernel, by decide +kernel⟩, List.mem_of_getElem? (i := 1321) (by decide +kernel), List.mem_of_getElem? (i := 1902) (by decide +kernel), List.mem_of_getElem? (i := 1903) (by decide +kernel)⟩
theorem lw_p99 : lw_okq (⟨"EatenTollModel", "startsPlan", "()V"⟩, 88) := ⟨⟨by decide +kernel, by decide +kernel⟩, List.mem_of_getElem? (i := 1321) (by decide +kernel), List.mem_of_getElem? (i := 1906) (by decide +kernel), List.mem_of_getElem? (i := 1907) (by decide +kernel)⟩
theorem lw_p100 : lw_okq (⟨"EatenTollModel", "passMore", "(III)V"⟩, 88) := ⟨⟨by decide +kernel, by decide +kernel⟩, List.mem_of_getElem? (i := 1321) (by decide +kernel), List.mem_of_getElem? (i := 1911) (by decide +kernel), List.mem_of_getElem? (i := 1912) (by decide +kernel)⟩
theorem lw_p101 : lw_okq (⟨"EatenTollModel", "plans", "(III)V"⟩, 88) := ⟨⟨by decide +kernel, by decide +kernel⟩, List.mem_of_getElem? (i := 1321) (by decide +kernel), List.mem_of_getElem? (i := 1922) (by decide +kernel), List.mem_of_getElem? (i := 1923) (by decide +kernel)⟩
theorem lw_p102 : lw_okq (⟨"EatenTollModel", "gainBy", "(I)I"⟩, 88) := ⟨⟨by decide +kernel, by decide +kernel⟩, List.mem_of_getElem? (i := 1321) (by decide +kernel), List.mem_of_getElem? (i := 1938) (by decide +kernel), List.mem_of_getElem? (i := 1939) (by decide +kernel)⟩
theorem lw_p103 : lw_okq (⟨"EatenTollModel", "nextLaw", "()Z"⟩, 88) := ⟨⟨by decide +kernel, by decide +kernel⟩, List.mem_of_getElem? (i := 1321) (by decide +kernel), List.mem_of_getElem? (i := 1942) (by decide +kernel), List.mem_of_getElem? (i := 1943) (by decide +kernel)⟩
theorem lw_p104 : lw_okq (⟨"EatenTollModel", "goesOne", "(I)V"⟩, 88) := ⟨⟨by decide +kernel, by decide +kernel⟩, List.mem_of_getElem? (i := 1321) (by decide +kernel), List.mem_of_getElem? (i := 1950) (by decide +kernel), List.mem_of_getElem? (i := 1951) (by decide +kernel)⟩
theorem lw_p105 : lw_okq (⟨"EatenTollModel", "netOf", "(I)I"⟩, 88) := ⟨⟨by decide +kernel, by decide +kernel⟩, List.mem_of_getElem? (i := 1321) (by decide +kernel), List.mem_of_getElem? (i := 1958) (by decide +kernel), List.mem_of_getElem? (i := 1959) (by decide +kernel)⟩
theorem lw_p106 : lw_okq (⟨"EatenTollModel", "judges", "(II)I"⟩, 88) := ⟨⟨by decide +kernel, by decide +kernel⟩, List.mem_of_getElem? (i := 1321) (by decide +kernel), List.mem_of_getElem? (i := 1983) (by decide +kernel), List.mem_of_getElem? (i := 1984) (by decide +kernel)⟩
def lw_privs_7 : List (MethodName × Nat) := [(⟨"EatenTollModel", "oneSwallows", "(III)V"⟩, 88), (⟨"EatenTollModel", "splits", "(III)I"⟩, 88), (⟨"EatenTollModel", "isSet", "(I)Z"⟩, 88), (⟨"EatenTollModel", "startsPlan", "()V"⟩, 88), (⟨"EatenTollModel", "passMore", "(III)V"⟩, 88), (⟨"EatenTollModel", "plans", "(III)V"⟩, 88), (⟨"EatenTollModel", "gainBy", "(I)I"⟩, 88), (⟨"EatenTollModel", "nextLaw", "()Z"⟩, 88), (⟨"EatenTollModel", "goesOne", "(I)V"⟩, 88), (⟨"EatenTollModel", "netOf", "(I)I"⟩, 88), (⟨"EatenTollModel", "judges", "(II)I"⟩, 88)]
theorem lw_r7 : ∀ q ∈ lw_privs_7, lw_okq q := List.forall_mem_cons.mpr ⟨lw_p96, List.forall_mem_cons.mpr ⟨lw_p97, List.forall_mem_cons.mpr ⟨lw_p98, List.forall_mem_cons.mpr ⟨lw_p99, List.forall_mem_cons.mpr ⟨lw_p100, List.forall_mem_cons.mpr ⟨lw_p101, List.forall_mem_cons.mpr ⟨lw_p102, List.forall_mem_cons.mpr ⟨lw_p103, List.forall_mem_cons.mpr ⟨lw_p104, List.forall_mem_cons.mpr ⟨lw_p105, List.forall_mem_cons.mpr ⟨lw_p106, fun _ h => absurd h List.not_mem_nil⟩⟩⟩⟩⟩⟩⟩⟩⟩⟩⟩
def lw_privs : List (MethodName × Nat) := lw_privs_1 ++ (lw_privs_2 ++ (lw_privs_3 ++ (lw_privs_4 ++ (lw_privs_5 ++ (lw_privs_6 ++ (lw_privs_7))))))
def lw_tbl : List Cond := k2_sels lw_privs ++ tables_1
theorem lw_privs_ok : ∀ q ∈ lw_privs, lw_okq q := by
  show ∀ q ∈ lw_privs_1 ++ (lw_privs_2 ++ (lw_privs_3 ++ (lw_privs_4 ++ (lw_privs_5 ++ (lw_privs_6 ++ (lw_privs_7)))))), lw_okq q
  exact List.forall_mem_append.mpr ⟨lw_r1, List.forall_mem_append.mpr ⟨lw_r2, List.forall_mem_append.mpr ⟨lw_r3, List.forall_mem_append.mpr ⟨lw_r4, List.forall_mem_append.mpr ⟨lw_r5, List.forall_mem_append.mpr ⟨lw_r6, lw_r7⟩⟩⟩⟩⟩⟩
-- ===== end of PART A; then your names; then what follows =====
end
section
/-! THE ABSTRACT MACHINE: whole numbers as Int, cells by number, no addresses -/
abbrev am_V : Type := Int ⊕ (Int ⊕ Nat)
abbrev vI (x : Int) : am_V := .inl x
abbrev vJ (x : Int) : am_V := .inr (.inl x)
abbrev vP (k : Nat) : am_V := .inr (.inr k)
abbrev am_L : Type := List (Option am_V)
/-- a cell: kind (0 int[], 1 byte[], 2 boolean[], 3 long[], 4 + class), how many places, references (0: null) -/
abbrev am_C : Type := Nat × Nat × List Nat
/-- cells that are written, cells that are only read (numbered from 1000 on), what all hold -/
abbrev am_M : Type := List am_C × List am_C × (Nat → Nat → Int)
/-- an instruction: op, length, three numbers, an Int, locals that die ahead of it, targets -/
abbrev am_E : Type := Nat × Nat × Nat × Nat × Nat × Int × List Nat × List Nat
def w32 (x : Int) : Int := (x + 2147483648) % 4294967296 - 2147483648
def w64 (x : Int) : Int := (x + 9223372036854775808) % 18446744073709551616 - 9223372036854775808
def am_and (x y : Int) : Int := (Int32.ofInt x &&& Int32.ofInt y).toInt
def am_or (x y : Int) : Int := (Int32.ofInt x ||| Int32.ofInt y).toInt
def am_xor (x y : Int) : Int := (Int32.ofInt x ^^^ Int32.ofInt y).toInt
def am_shl (x y : Int) : Int := (Int32.ofInt x <<< (Int32.ofInt y &&& 31)).toInt
def am_shr (x y : Int) : Int := (Int32.ofInt x >>> (Int32.ofInt y &&& 31)).toInt
def am_ushr (x y : Int) : Int := ((Int32.ofInt x).toUInt32 >>> ((Int32.ofInt y).toUInt32 &&& Int32.toUInt32 31)).toInt32.toInt
def am_div (x y : Int) : Int := w32 (Int.tdiv x y)
def am_rem (x y : Int) : Int := w32 (x - am_div x y * y)
def am_bin (a : Nat) (x y : Int) : Int := match a with
  | 0 => w32 (x + y)
  | 1 => w32 (x - y)
  | 2 => w32 (x * y)
  | 3 => am_and x y
  | 4 => am_or x y
  | 5 => am_xor x y
  | 6 => am_shl x y
  | 7 => am_shr x y
  | _ => am_ushr x y
def am_lbin (a : Nat) (x y : Int) : Int := match a with
  | 0 => w64 (x + y)
  | _ => w64 (x * y)
def am_i2b (x : Int) : Int := (x + 128) % 256 - 128
def am_i2c (x : Int) : Int := x % 65536
def am_lcmp (x y : Int) : Int := if x < y then -1 else if x = y then 0 else 1
def am_cnd (a : Nat) (x y : Int) : Bool := match a with
  | 0 => decide (x = y)
  | 1 => decide (¬ x = y)
  | 2 => decide (x < y)
  | 3 => decide (y ≤ x)
  | 4 => decide (y < x)
  | _ => decide (x ≤ y)
def am_tag : am_V → Nat
  | .inl _ => 0
  | .inr (.inl _) => 1
  | .inr (.inr _) => 2
def am_cat (v : am_V) : Nat := if am_tag v = 1 then 2 else 1
def am_cats (S : List am_V) : Nat := (S.map am_cat).sum
def am_isJ : Option (Option am_V) → Bool
  | some (some (.inr (.inl _))) => true
  | _ => false
def am_st (L : am_L) (a : Nat) (v : am_V) : am_L :=
  let L1 := match a with
    | 0 => L
    | k + 1 => if am_isJ L[k]? then L.set k none else L
  if am_tag v = 1 then (L1.set a (some v)).set (a + 1) none else L1.set a (some v)
def am_kill (ks : List Nat) (L : am_L) : am_L := ks.foldl (fun L k => L.set k none) L
def am_ent0 : List am_V → am_L
  | [] => []
  | v :: vs => if am_tag v = 1 then some v :: none :: am_ent0 vs else some v :: am_ent0 vs
def am_ent (n : Nat) (vs : List am_V) : am_L := am_ent0 vs ++ List.replicate (n - (am_ent0 vs).length) none
def am_dsc (μ : am_M) (k : Nat) : Option am_C := if k < 1000 then μ.1[k]? else μ.2.1[k - 1000]?
def am_okT (t : Nat) (x : Int) : Bool := match t with
  | 0 => decide (-2147483648 ≤ x) && decide (x < 2147483648)
  | 1 => decide (-128 ≤ x) && decide (x < 128)
  | 2 => decide (0 ≤ x) && decide (x ≤ 1)
  | 3 => decide (-9223372036854775808 ≤ x) && decide (x < 9223372036854775808)
  | _ => true
def am_upd (σ : Nat → Nat → Int) (k j : Nat) (x : Int) : Nat → Nat → Int := fun a i => if a = k then (if i = j then x else σ a i) else σ a i
def am_row (σ : Nat → Nat → Int) (k : Nat) (f : Nat → Int) : Nat → Nat → Int := fun a i => if a = k then f i else σ a i
def am_cp (f g : Nat → Int) (sp dp n : Nat) : Nat → Int := fun k => if dp ≤ k ∧ k < dp + n then f (sp + (k - dp)) else g k
/-- the type of a field: 0 int, 2 boolean, 3 long, 4 a reference -/
def am_ft (ft : List (List Nat)) (ci j : Nat) : Nat := (ft.getD ci []).getD j 0
abbrev am_O : Type := Option (Nat × am_L × List am_V × am_M)
def am_sload (t a n : Nat) (L : am_L) (S : List am_V) (μ : am_M) : am_O := match L[a]? with
  | some (some v) => if am_tag v = t then some (n, L, v :: S, μ) else none
  | _ => none
def am_sstore (t a n : Nat) (L : am_L) (S : List am_V) (μ : am_M) : am_O := match S with
  | v :: S => if am_tag v = t ∧ a + am_cat v ≤ L.length then some (n, am_st L a v, S, μ) else none
  | _ => none
def am_sbin (a n : Nat) (L : am_L) (S : List am_V) (μ : am_M) : am_O := match S with
  | .inl y :: .inl x :: S => some (n, L, vI (am_bin a x y) :: S, μ)
  | _ => none
def am_sdiv (a n : Nat) (L : am_L) (S : List am_V) (μ : am_M) : am_O := match S with
  | .inl y :: .inl x :: S => if y = 0 then none else some (n, L, vI (if a = 0 then am_div x y else am_rem x y) :: S, μ)
  | _ => none
def am_sneg (n : Nat) (L : am_L) (S : List am_V) (μ : am_M) : am_O := match S with
  | .inl x :: S => some (n, L, vI (w32 (-x)) :: S, μ)
  | _ => none
def am_slbin (a n : Nat) (L : am_L) (S : List am_V) (μ : am_M) : am_O := match S with
  | .inr (.inl y) :: .inr (.inl x) :: S => some (n, L, vJ (am_lbin a x y) :: S, μ)
  | _ => none
def am_sconv (a n : Nat) (L : am_L) (S : List am_V) (μ : am_M) : am_O := match a, S with
  | 0, .inl x :: S => some (n, L, vJ x :: S, μ)
  | 1, .inr (.inl x) :: S => some (n, L, vI (w32 x) :: S, μ)
  | 2, .inl x :: S => some (n, L, vI (am_i2b x) :: S, μ)
  | 3, .inl x :: S => some (n, L, vI (am_i2c x) :: S, μ)
  | _, _ => none
def am_slcmp (n : Nat) (L : am_L) (S : List am_V) (μ : am_M) : am_O := match S with
  | .inr (.inl y) :: .inr (.inl x) :: S => some (n, L, vI (am_lcmp x y) :: S, μ)
  | _ => none
def am_sinc (a : Nat) (c : Int) (n : Nat) (L : am_L) (S : List am_V) (μ : am_M) : am_O := match L[a]? with
  | some (some (.inl x)) => some (n, am_st L a (vI (w32 (x + c))), S, μ)
  | _ => none
def am_sif (a tgt n : Nat) (L : am_L) (S : List am_V) (μ : am_M) : am_O := match S with
  | .inl x :: S => some (if am_cnd a x 0 then tgt else n, L, S, μ)
  | _ => none
def am_sicmp (a tgt n : Nat) (L : am_L) (S : List am_V) (μ : am_M) : am_O := match S with
  | .inl y :: .inl x :: S => some (if am_cnd a x y then tgt else n, L, S, μ)
  | _ => none
def am_stsw (dflt : Nat) (lo : Int) (offs : List Nat) (L : am_L) (S : List am_V) (μ : am_M) : am_O := match S with
  | .inl x :: S => if x < lo ∨ lo + (offs.length : Int) ≤ x then some (dflt, L, S, μ) else match offs[(x - lo).toNat]? with
    | some t => some (t, L, S, μ)
    | none => none
  | _ => none
def am_sdup (n : Nat) (L : am_L) (S : List am_V) (μ : am_M) : am_O := match S with
  | v :: S => if am_tag v = 1 then none else some (n, L, v :: v :: S, μ)
  | _ => none
def am_sdup2 (n : Nat) (L : am_L) (S : List am_V) (μ : am_M) : am_O := match S with
  | v :: u :: S => if am_tag v = 1 ∨ am_tag u = 1 then none else some (n, L, v :: u :: v :: u :: S, μ)
  | _ => none
def am_spop (n : Nat) (L : am_L) (S : List am_V) (μ : am_M) : am_O := match S with
  | v :: S => if am_tag v = 1 then none else some (n, L, S, μ)
  | _ => none
/-- what a field holds -/
def am_fget (ft : List (List Nat)) (σ : Nat → Nat → Int) (k ci j : Nat) (rs : List Nat) : Option am_V := match am_ft ft ci j with
  | 0 => some (vI (σ k j))
  | 1 => some (vI (σ k j))
  | 2 => some (vI (σ k j))
  | 3 => some (vJ (σ k j))
  | _ => match rs[j]? with
    | some (r + 1) => some (vP r)
    | _ => none
def am_sgetf (ft : List (List Nat)) (ci j n : Nat) (L : am_L) (S : List am_V) (μ : am_M) : am_O := match S with
  | .inr (.inr k) :: S => match am_dsc μ k with
    | some (kd, N, rs) => if kd = 4 + ci ∧ j < N then match am_fget ft μ.2.2 k ci j rs with
      | some v => some (n, L, v :: S, μ)
      | none => none
      else none
    | none => none
  | _ => none
def am_sputf (ft : List (List Nat)) (ci j n : Nat) (L : am_L) (S : List am_V) (μ : am_M) : am_O := match S with
  | .inl x :: .inr (.inr k) :: S => match μ.1[k]? with
    | some (kd, N, _) => if kd = 4 + ci ∧ j < N ∧ (am_ft ft ci j = 0 ∨ am_ft ft ci j = 2) ∧ am_okT (am_ft ft ci j) x = true then some (n, L, S, (μ.1, μ.2.1, am_upd μ.2.2 k j x)) else none
    | none => none
  | .inr (.inl x) :: .inr (.inr k) :: S => match μ.1[k]? with
    | some (kd, N, _) => if kd = 4 + ci ∧ j < N ∧ am_ft ft ci j = 3 then some (n, L, S, (μ.1, μ.2.1, am_upd μ.2.2 k j x)) else none
    | none => none
  | .inr (.inr r) :: .inr (.inr k) :: S => match μ.1[k]? with
    | some (kd, N, rs) => if kd = 4 + ci ∧ j < N ∧ am_ft ft ci j = 4 ∧ rs.length = N then some (n, L, S, (μ.1.set k (kd, N, rs.set j (r + 1)), μ.2.1, μ.2.2)) else none
    | none => none
  | _ => none
def am_sgets (a n : Nat) (L : am_L) (S : List am_V) (μ : am_M) : am_O := match a with
  | 0 => some (n, L, vP 1001 :: S, μ)
  | 1 => some (n, L, vI 1 :: S, μ)
  | _ => none
def am_sald (a n : Nat) (L : am_L) (S : List am_V) (μ : am_M) : am_O := match S with
  | .inl i :: .inr (.inr k) :: S => match am_dsc μ k with
    | some (kd, N, _) => if kd = a ∧ 0 ≤ i ∧ i < (N : Int) then some (n, L, (if a = 3 then vJ (μ.2.2 k i.toNat) else vI (μ.2.2 k i.toNat)) :: S, μ) else none
    | none => none
  | _ => none
def am_sast (a n : Nat) (L : am_L) (S : List am_V) (μ : am_M) : am_O := match S with
  | .inl x :: .inl i :: .inr (.inr k) :: S => match μ.1[k]? with
    | some (kd, N, _) => if kd = a ∧ a < 3 ∧ 0 ≤ i ∧ i < (N : Int) ∧ am_okT a x = true then some (n, L, S, (μ.1, μ.2.1, am_upd μ.2.2 k i.toNat x)) else none
    | none => none
  | .inr (.inl x) :: .inl i :: .inr (.inr k) :: S => match μ.1[k]? with
    | some (kd, N, _) => if kd = a ∧ a = 3 ∧ 0 ≤ i ∧ i < (N : Int) then some (n, L, S, (μ.1, μ.2.1, am_upd μ.2.2 k i.toNat x)) else none
    | none => none
  | _ => none
def am_salen (n : Nat) (L : am_L) (S : List am_V) (μ : am_M) : am_O := match S with
  | .inr (.inr k) :: S => match am_dsc μ k with
    | some (kd, N, _) => if kd < 4 ∧ N < 2147483648 then some (n, L, vI N :: S, μ) else none
    | none => none
  | _ => none
def am_snew (ci N n : Nat) (L : am_L) (S : List am_V) (μ : am_M) : am_O :=
  if μ.1.length < 1000 then some (n, L, vP μ.1.length :: S, (μ.1 ++ [(4 + ci, N, List.replicate N 0)], μ.2.1, am_row μ.2.2 μ.1.length (fun _ => 0))) else none
def am_snewa (a n : Nat) (L : am_L) (S : List am_V) (μ : am_M) : am_O := match S with
  | .inl i :: S => if μ.1.length < 1000 ∧ a < 4 ∧ 0 ≤ i ∧ i < 100000 then some (n, L, vP μ.1.length :: S, (μ.1 ++ [(a, i.toNat, [])], μ.2.1, am_row μ.2.2 μ.1.length (fun _ => 0))) else none
  | _ => none
def am_scopy (a n : Nat) (L : am_L) (S : List am_V) (μ : am_M) : am_O := match S with
  | .inl m :: .inl dp :: .inr (.inr k1) :: .inl sp :: .inr (.inr k0) :: S => match μ.1[k0]?, μ.1[k1]? with
    | some (kd0, N0, _), some (kd1, N1, _) => if kd0 = a ∧ kd1 = a ∧ (a = 0 ∨ a = 3) ∧ 0 ≤ m ∧ 0 ≤ dp ∧ 0 ≤ sp ∧ sp + m ≤ (N0 : Int) ∧ dp + m ≤ (N1 : Int) ∧ am_cats S ≤ 8 then some (n, L, S, (μ.1, μ.2.1, am_row μ.2.2 k1 (am_cp (μ.2.2 k0) (μ.2.2 k1) sp.toNat dp.toNat m.toNat))) else none
    | _, _ => none
  | _ => none
def am_smath (a n : Nat) (L : am_L) (S : List am_V) (μ : am_M) : am_O := match a, S with
  | 0, .inl y :: .inl x :: S => if am_cats S ≤ 8 then some (n, L, vI (if x < y then y else x) :: S, μ) else none
  | 1, .inl y :: .inl x :: S => if am_cats S ≤ 8 then some (n, L, vI (if y < x then y else x) :: S, μ) else none
  | 2, .inl x :: S => if am_cats S ≤ 8 then some (n, L, vI (if 0 ≤ x then x else w32 (0 - x)) :: S, μ) else none
  | _, _ => none
def am_soinit (n : Nat) (L : am_L) (S : List am_V) (μ : am_M) : am_O := match S with
  | .inr (.inr _) :: S => if am_cats S ≤ 8 then some (n, L, S, μ) else none
  | _ => none
/-- String.checkIndex -/
def am_schk (n : Nat) (L : am_L) (S : List am_V) (μ : am_M) : am_O := match S with
  | .inl k :: .inl i :: S => if 0 ≤ i ∧ i < k ∧ am_cats S ≤ 8 then some (n, L, S, μ) else none
  | _ => none
/-- one instruction that is no call and no return -/
def am_step (ft : List (List Nat)) (e : am_E) (pc : Nat) (L : am_L) (S : List am_V) (μ : am_M) : am_O := match e with
  | (op, len, a, b, d, c, _, offs) => match op with
    | 0 => am_sload 0 a (pc + len) L S μ
    | 1 => am_sload 1 a (pc + len) L S μ
    | 2 => am_sload 2 a (pc + len) L S μ
    | 3 => am_sstore 0 a (pc + len) L S μ
    | 4 => am_sstore 1 a (pc + len) L S μ
    | 5 => am_sstore 2 a (pc + len) L S μ
    | 6 => some (pc + len, L, vI c :: S, μ)
    | 7 => some (pc + len, L, vJ c :: S, μ)
    | 8 => am_sbin a (pc + len) L S μ
    | 9 => am_sdiv 0 (pc + len) L S μ
    | 10 => am_sdiv 1 (pc + len) L S μ
    | 11 => am_sneg (pc + len) L S μ
    | 12 => am_slbin a (pc + len) L S μ
    | 13 => am_sconv a (pc + len) L S μ
    | 14 => am_slcmp (pc + len) L S μ
    | 15 => am_sinc a c (pc + len) L S μ
    | 16 => am_sif a b (pc + len) L S μ
    | 17 => am_sicmp a b (pc + len) L S μ
    | 18 => some (b, L, S, μ)
    | 19 => am_stsw b c offs L S μ
    | 20 => am_sdup (pc + len) L S μ
    | 21 => am_sdup2 (pc + len) L S μ
    | 22 => am_spop (pc + len) L S μ
    | 23 => am_sgetf ft a b (pc + len) L S μ
    | 24 => am_sputf ft a b (pc + len) L S μ
    | 25 => am_sgets a (pc + len) L S μ
    | 26 => am_sald a (pc + len) L S μ
    | 27 => am_sast a (pc + len) L S μ
    | 28 => am_salen (pc + len) L S μ
    | 31 => am_snew a b (pc + len) L S μ
    | 32 => am_snewa a (pc + len) L S μ
    | 33 => am_scopy a (pc + len) L S μ
    | 34 => am_smath a (pc + len) L S μ
    | 35 => am_schk (pc + len) L S μ
    | 37 => am_soinit (pc + len) L S μ
    | 38 => some (pc + len, L, vP (1002 + a) :: S, μ)
    | _ => none
/-- may this be called so: a receiver of the class told, room on the stack -/
def am_recvOk (c : Int) (d : Nat) (μ : am_M) (vs : List am_V) : Bool :=
  if c = 1 then true else match vs with
  | .inr (.inr k) :: _ => match am_dsc μ k with
    | some (kd, _, _) => decide (kd = 4 + d)
    | none => false
  | _ => false
/-- the answer that a return gives -/
def am_ret (a : Nat) (S : List am_V) : Option (Option am_V) := match a, S with
  | 0, [] => some none
  | 1, [.inl x] => some (some (vI x))
  | 3, [.inl x] => if am_okT 2 x then some (some (vI x)) else none
  | 4, [.inl x] => if am_okT 1 x then some (some (vI x)) else none
  | 5, [.inl x] => if 0 ≤ x ∧ x < 65536 then some (some (vI x)) else none
  | 2, [.inr (.inl x)] => some (some (vJ x))
  | _, _ => none
def am_run (ft : List (List Nat)) (mL : Nat → Nat) (code : Nat → Nat → Option am_E) : Nat → Nat → Nat → am_L → List am_V → am_M → Option (Option am_V × am_M)
  | 0, _, _, _, _, _ => none
  | n + 1, mid, pc, L, S, μ => match code mid pc with
    | none => none
    | some (op, len, a, b, d, c, ks, offs) =>
      if op = 29 then
        if b ≤ S.length ∧ (am_ent0 (S.take b).reverse).length ≤ mL a ∧ am_cats (S.drop b) ≤ 8 ∧ am_recvOk c d μ (S.take b).reverse = true then
          match am_run ft mL code n a 0 (am_ent (mL a) (S.take b).reverse) [] μ with
          | none => none
          | some (r, μ') => am_run ft mL code n mid (pc + len) (am_kill ks L) (r.toList ++ S.drop b) μ'
        else none
      else if op = 30 then
        match am_ret a S with
        | none => none
        | some r => some (r, μ)
      else match am_step ft (op, len, a, b, d, c, ks, offs) pc (am_kill ks L) S μ with
        | none => none
        | some (pc', L', S', μ') => am_run ft mL code n mid pc' L' S' μ'
end
section
/-! numbers: Int beside Int32, Int64 -/
theorem am_w32_rng (x : Int) : -2147483648 ≤ w32 x ∧ w32 x < 2147483648 := by unfold w32; omega
theorem am_w64_rng (x : Int) : -9223372036854775808 ≤ w64 x ∧ w64 x < 9223372036854775808 := by unfold w64; omega
theorem w32_id {x : Int} (h1 : -2147483648 ≤ x) (h2 : x < 2147483648) : w32 x = x := by unfold w32; omega
theorem w64_id {x : Int} (h1 : -9223372036854775808 ≤ x) (h2 : x < 9223372036854775808) : w64 x = x := by unfold w64; omega
theorem am_w32_bmod (x : Int) : w32 x = x.bmod (2 ^ 32) := by
  unfold w32
  simp only [Int.bmod_def]
  omega
theorem am_w64_bmod (x : Int) : w64 x = x.bmod (2 ^ 64) := by
  unfold w64
  simp only [Int.bmod_def]
  omega
theorem am_of_w32 (x : Int) : Int32.ofInt (w32 x) = Int32.ofInt x := by
  apply Int32.toInt_inj.1
  rw [Int32.toInt_ofInt, Int32.toInt_ofInt, am_w32_bmod, Int.bmod_bmod]
theorem am_of_w64 (x : Int) : Int64.ofInt (w64 x) = Int64.ofInt x := by
  apply Int64.toInt_inj.1
  rw [Int64.toInt_ofInt, Int64.toInt_ofInt, am_w64_bmod, Int.bmod_bmod]
theorem am_toI {x : Int} (h : -2147483648 ≤ x ∧ x < 2147483648) : (Int32.ofInt x).toInt = x := by
  rw [Int32.toInt_ofInt, ← am_w32_bmod, w32_id h.1 h.2]
theorem am_toL {x : Int} (h : -9223372036854775808 ≤ x ∧ x < 9223372036854775808) : (Int64.ofInt x).toInt = x := by
  rw [Int64.toInt_ofInt, ← am_w64_bmod, w64_id h.1 h.2]
theorem am_rng (x : Int32) : -2147483648 ≤ x.toInt ∧ x.toInt < 2147483648 := by
  have h1 := Int32.le_toInt x
  have h2 := Int32.toInt_lt x
  omega
theorem am_ofT (x : Int32) : Int32.ofInt x.toInt = x := Int32.ofInt_toInt x
theorem am_oadd (x y : Int) : Int32.ofInt (w32 (x + y)) = Int32.ofInt x + Int32.ofInt y := by rw [am_of_w32, Int32.ofInt_add]
theorem am_osub (x y : Int) : Int32.ofInt (w32 (x - y)) = Int32.ofInt x - Int32.ofInt y := by rw [am_of_w32, Int32.ofInt_sub]
theorem am_omul (x y : Int) : Int32.ofInt (w32 (x * y)) = Int32.ofInt x * Int32.ofInt y := by rw [am_of_w32, Int32.ofInt_mul]
theorem am_oneg (x : Int) : Int32.ofInt (w32 (-x)) = -Int32.ofInt x := by rw [am_of_w32, Int32.ofInt_neg]
theorem am_oladd (x y : Int) : Int64.ofInt (w64 (x + y)) = Int64.ofInt x + Int64.ofInt y := by rw [am_of_w64, Int64.ofInt_add]
theorem am_olmul (x y : Int) : Int64.ofInt (w64 (x * y)) = Int64.ofInt x * Int64.ofInt y := by rw [am_of_w64, Int64.ofInt_mul]
theorem am_olt {x y : Int} (hx : -2147483648 ≤ x ∧ x < 2147483648) (hy : -2147483648 ≤ y ∧ y < 2147483648) : Int32.ofInt x < Int32.ofInt y ↔ x < y := by
  rw [Int32.lt_iff_toInt_lt, am_toI hx, am_toI hy]
theorem am_ole {x y : Int} (hx : -2147483648 ≤ x ∧ x < 2147483648) (hy : -2147483648 ≤ y ∧ y < 2147483648) : Int32.ofInt x ≤ Int32.ofInt y ↔ x ≤ y := by
  rw [Int32.le_iff_toInt_le, am_toI hx, am_toI hy]
theorem am_oeq {x y : Int} (hx : -2147483648 ≤ x ∧ x < 2147483648) (hy : -2147483648 ≤ y ∧ y < 2147483648) : Int32.ofInt x = Int32.ofInt y ↔ x = y := by
  rw [← Int32.toInt_inj, am_toI hx, am_toI hy]
theorem am_o0 : Int32.ofInt 0 = 0 := rfl
theorem am_odiv {x y : Int} (hx : -2147483648 ≤ x ∧ x < 2147483648) (hy : -2147483648 ≤ y ∧ y < 2147483648) : Int32.ofInt (am_div x y) = Int32.ofInt x / Int32.ofInt y := by
  apply Int32.toInt_inj.1
  unfold am_div
  rw [am_of_w32, Int32.toInt_ofInt, Int32.toInt_div, am_toI hx, am_toI hy]
theorem am_orem {x y : Int} (hx : -2147483648 ≤ x ∧ x < 2147483648) (hy : -2147483648 ≤ y ∧ y < 2147483648) : Int32.ofInt (am_rem x y) = Int32.ofInt x - Int32.ofInt x / Int32.ofInt y * Int32.ofInt y := by
  unfold am_rem
  rw [am_osub, Int32.ofInt_mul, am_odiv hx hy]
theorem am_oi2b {x : Int} (hx : -2147483648 ≤ x ∧ x < 2147483648) : (Int32.ofInt x).toInt8.toInt32 = Int32.ofInt (am_i2b x) := by
  apply Int32.toInt_inj.1
  rw [Int8.toInt_toInt32, Int32.toInt_toInt8, am_toI hx, am_toI (by unfold am_i2b; omega)]
  unfold am_i2b
  simp only [Int.bmod_def]
  omega
theorem am_nI (n : Nat) : nI n = Int32.ofInt (n : Int) := by
  unfold nI
  apply Int32.toInt_inj.1
  rw [Int32.toInt_ofInt, Int32.toInt_ofNat']
theorem am_oi2c {x : Int} (hx : -2147483648 ≤ x ∧ x < 2147483648) : ((Int32.ofInt x).toUInt32 % 65536).toInt32 = Int32.ofInt (am_i2c x) := by
  rw [pk_char, am_nI]
  congr 1
  unfold am_i2c
  have h : (Int32.ofInt x).toBitVec = BitVec.ofInt 32 x := rfl
  rw [h, BitVec.toNat_ofInt]
  omega
theorem am_oi2l {x : Int} (hx : -2147483648 ≤ x ∧ x < 2147483648) : (Int32.ofInt x).toInt64 = Int64.ofInt x := by
  apply Int64.toInt_inj.1
  rw [Int32.toInt_toInt64, am_toI hx, am_toL (by omega)]
theorem am_ol2i {x : Int} (hx : -9223372036854775808 ≤ x ∧ x < 9223372036854775808) : (Int64.ofInt x).toInt32 = Int32.ofInt (w32 x) := by
  apply Int32.toInt_inj.1
  rw [Int64.toInt_toInt32, am_toL hx, am_of_w32, Int32.toInt_ofInt]
theorem am_olcmp {x y : Int} (hx : -9223372036854775808 ≤ x ∧ x < 9223372036854775808) (hy : -9223372036854775808 ≤ y ∧ y < 9223372036854775808) : lg_cmp (Int64.ofInt x) (Int64.ofInt y) = Int32.ofInt (am_lcmp x y) := by
  unfold lg_cmp am_lcmp
  simp only [gt_iff_lt, Int64.lt_iff_toInt_lt, ← Int64.toInt_inj, am_toL hx, am_toL hy]
  rcases Int.lt_trichotomy x y with h | h | h
  · rw [if_neg (by omega), if_neg (by omega), if_pos h]; rfl
  · rw [if_neg (by omega), if_pos h, if_neg (by omega), if_pos h]; rfl
  · rw [if_pos h, if_neg (by omega), if_neg (by omega)]; rfl
theorem am_oin {i : Int} (hi : -2147483648 ≤ i ∧ i < 2147483648) {n : Nat} (h0 : 0 ≤ i) (h1 : i < (n : Int)) : vp_in (Int32.ofInt i) n := vp_in_iff.mpr (by rw [am_toI hi]; exact ⟨h0, h1⟩)
theorem am_ocl {i : Int} (hi : -2147483648 ≤ i ∧ i < 2147483648) : (Int32.ofInt i).toNatClampNeg = i.toNat := by
  show (Int32.ofInt i).toInt.toNat = i.toNat
  rw [am_toI hi]
theorem am_obin (a : Nat) (x y : Int) : -2147483648 ≤ am_bin a x y ∧ am_bin a x y < 2147483648 := by
  unfold am_bin
  split
  · exact am_w32_rng _
  · exact am_w32_rng _
  · exact am_w32_rng _
  · exact am_rng _
  · exact am_rng _
  · exact am_rng _
  · exact am_rng _
  · exact am_rng _
  · exact am_rng _
end
section
/-! what holds of every state of the abstract machine -/
def am_okV (n : Nat) : am_V → Prop
  | .inl x => -2147483648 ≤ x ∧ x < 2147483648
  | .inr (.inl x) => -9223372036854775808 ≤ x ∧ x < 9223372036854775808
  | .inr (.inr k) => k < n ∨ 1000 ≤ k
def am_tyc (ft : List (List Nat)) (c : am_C) (j : Nat) : Nat := if c.1 < 4 then c.1 else am_ft ft (c.1 - 4) j
def am_R (ft : List (List Nat)) (μ : am_M) : Prop := μ.1.length ≤ 1000 ∧ ∀ (k : Nat) (c : am_C), am_dsc μ k = some c → (∀ j, am_okT (am_tyc ft c j) (μ.2.2 k j) = true) ∧ ∀ j r : Nat, c.2.2[j]? = some (r + 1) → (r < μ.1.length ∨ 1000 ≤ r)
def am_sl (μ : am_M) : Nat := (μ.1.map (fun c => c.2.1)).sum
def am_I (ft : List (List Nat)) (μ : am_M) (L : am_L) (S : List am_V) : Prop := am_R ft μ ∧ (∀ v, some v ∈ L → am_okV μ.1.length v) ∧ ∀ v ∈ S, am_okV μ.1.length v
def am_G (μ μ' : am_M) : Prop := μ.1.length ≤ μ'.1.length ∧ am_sl μ ≤ am_sl μ' ∧ μ'.2.1 = μ.2.1 ∧ ∀ k, 1000 ≤ k → μ'.2.2 k = μ.2.2 k
theorem am_G.rf {μ : am_M} : am_G μ μ := ⟨Nat.le_refl _, Nat.le_refl _, rfl, fun _ _ => rfl⟩
theorem am_G.tr {a b c : am_M} (h : am_G a b) (k : am_G b c) : am_G a c := ⟨Nat.le_trans h.1 k.1, Nat.le_trans h.2.1 k.2.1, k.2.2.1.trans h.2.2.1, fun i hi => (k.2.2.2 i hi).trans (h.2.2.2 i hi)⟩
theorem am_G.upd {μ : am_M} {k j : Nat} {x : Int} (hk : k < 1000) : am_G μ (μ.1, μ.2.1, am_upd μ.2.2 k j x) := ⟨Nat.le_refl _, Nat.le_refl _, rfl, fun i hi => by
  funext z
  show am_upd μ.2.2 k j x i z = _
  unfold am_upd
  rw [if_neg (by omega)]⟩
theorem am_row_ne {σ : Nat → Nat → Int} {k i : Nat} {f : Nat → Int} (h : i ≠ k) : am_row σ k f i = σ i := by
  funext z
  unfold am_row
  rw [if_neg h]
theorem am_row_eq {σ : Nat → Nat → Int} {k : Nat} {f : Nat → Int} : am_row σ k f k = f := by
  funext z
  unfold am_row
  rw [if_pos rfl]
theorem am_upd_ne {σ : Nat → Nat → Int} {k j i : Nat} {x : Int} (h : i ≠ k) : am_upd σ k j x i = σ i := by
  funext z
  unfold am_upd
  rw [if_neg h]
theorem am_G.row {μ : am_M} {k : Nat} {f : Nat → Int} (hk : k < 1000) : am_G μ (μ.1, μ.2.1, am_row μ.2.2 k f) := ⟨Nat.le_refl _, Nat.le_refl _, rfl, fun i hi => am_row_ne (by omega)⟩
theorem am_lt1000 {μ : am_M} {k : Nat} {c : am_C} (hl : μ.1.length ≤ 1000) (h : μ.1[k]? = some c) : k < 1000 := Nat.lt_of_lt_of_le (List.getElem?_eq_some_iff.mp h).1 hl
theorem am_okV.mono {n m : Nat} (h : n ≤ m) {v : am_V} (k : am_okV n v) : am_okV m v := by
  match v, k with
  | .inl _, k => exact k
  | .inr (.inl _), k => exact k
  | .inr (.inr _), k => exact k.elim (fun z => Or.inl (Nat.lt_of_lt_of_le z h)) Or.inr
theorem am_I.push {ft : List (List Nat)} {μ : am_M} {L : am_L} {S : List am_V} {v : am_V} (I : am_I ft μ L S) (h : am_okV μ.1.length v) : am_I ft μ L (v :: S) :=
  ⟨I.1, I.2.1, fun u hu => (List.mem_cons.mp hu).elim (fun e => e ▸ h) (I.2.2 u)⟩
theorem am_I.pop {ft : List (List Nat)} {μ : am_M} {L : am_L} {S : List am_V} {v : am_V} (I : am_I ft μ L (v :: S)) : am_I ft μ L S := ⟨I.1, I.2.1, fun u hu => I.2.2 u (List.mem_cons_of_mem _ hu)⟩
theorem am_I.top {ft : List (List Nat)} {μ : am_M} {L : am_L} {S : List am_V} {v : am_V} (I : am_I ft μ L (v :: S)) : am_okV μ.1.length v := I.2.2 v List.mem_cons_self
theorem am_I.loc {ft : List (List Nat)} {μ : am_M} {L : am_L} {S : List am_V} {v : am_V} {a : Nat} (I : am_I ft μ L S) (h : L[a]? = some (some v)) : am_okV μ.1.length v := I.2.1 v (List.mem_of_getElem? h)
theorem am_mem_set {L : am_L} {a : Nat} {x : Option am_V} {v : am_V} (h : some v ∈ L.set a x) : x = some v ∨ some v ∈ L := by
  rcases List.mem_or_eq_of_mem_set h with h | h
  · exact Or.inr h
  · exact Or.inl h.symm
theorem am_mem_st {L : am_L} {a : Nat} {x v : am_V} (h : some v ∈ am_st L a x) : v = x ∨ some v ∈ L := by
  have key : ∀ L1 : am_L, (some v ∈ L1 → some v ∈ L) → some v ∈ (if am_tag x = 1 then (L1.set a (some x)).set (a + 1) none else L1.set a (some x)) → v = x ∨ some v ∈ L := by
    intro L1 h1 h2
    split at h2
    · rcases am_mem_set h2 with h3 | h3
      · cases h3
      · rcases am_mem_set h3 with h4 | h4
        · exact Or.inl (Option.some.inj h4).symm
        · exact Or.inr (h1 h4)
    · rcases am_mem_set h2 with h4 | h4
      · exact Or.inl (Option.some.inj h4).symm
      · exact Or.inr (h1 h4)
  unfold am_st at h
  match a, h with
  | 0, h => exact key L (fun z => z) h
  | k + 1, h =>
    refine key (if am_isJ L[k]? = true then L.set k none else L) ?_ h
    intro z
    by_cases hj : am_isJ L[k]? = true
    · rw [if_pos hj] at z
      rcases am_mem_set z with h3 | h3
      · cases h3
      · exact h3
    · rw [if_neg hj] at z
      exact z
theorem am_I.store {ft : List (List Nat)} {μ : am_M} {L : am_L} {S : List am_V} {v : am_V} {a : Nat} (I : am_I ft μ L S) (h : am_okV μ.1.length v) : am_I ft μ (am_st L a v) S :=
  ⟨I.1, fun u hu => (am_mem_st hu).elim (fun e => e ▸ h) (I.2.1 u), I.2.2⟩
theorem am_mem_kill {ks : List Nat} {v : am_V} : ∀ {L : am_L}, some v ∈ am_kill ks L → some v ∈ L := by
  induction ks with
  | nil => intro L h; exact h
  | cons k ks ih =>
    intro L h
    rcases am_mem_set (ih (L := L.set k none) h) with z | z
    · cases z
    · exact z
theorem am_I.kill {ft : List (List Nat)} {μ : am_M} {L : am_L} {S : List am_V} (I : am_I ft μ L S) (ks : List Nat) : am_I ft μ (am_kill ks L) S := ⟨I.1, fun v h => I.2.1 v (am_mem_kill h), I.2.2⟩
theorem am_okT32 {t : Nat} {x : Int} (ht : t < 3) (h : am_okT t x = true) : -2147483648 ≤ x ∧ x < 2147483648 := by
  match t, ht, h with
  | 0, _, h => simpa [am_okT] using h
  | 1, _, h => simp [am_okT] at h; omega
  | 2, _, h => simp [am_okT] at h; omega
theorem am_okT64 {x : Int} (h : am_okT 3 x = true) : -9223372036854775808 ≤ x ∧ x < 9223372036854775808 := by simpa [am_okT] using h
theorem am_okT0 {t : Nat} : am_okT t 0 = true := by
  unfold am_okT
  split <;> simp
theorem am_dsc_rw {μ : am_M} (hl : μ.1.length ≤ 1000) {k : Nat} {c : am_C} (h : μ.1[k]? = some c) : am_dsc μ k = some c := by
  have hk : k < μ.1.length := (List.getElem?_eq_some_iff.mp h).1
  unfold am_dsc
  rw [if_pos (by omega)]
  exact h
/-- a place is written -/
theorem am_R.upd {ft : List (List Nat)} {μ : am_M} (I : am_R ft μ) {k j : Nat} {x : Int} {c : am_C} (h : am_dsc μ k = some c) (hx : am_okT (am_tyc ft c j) x = true) : am_R ft (μ.1, μ.2.1, am_upd μ.2.2 k j x) := by
  refine ⟨I.1, fun k' c' h' => ⟨fun i => ?_, (I.2 k' c' h').2⟩⟩
  show am_okT _ (am_upd μ.2.2 k j x k' i) = true
  unfold am_upd
  split
  next e =>
    subst e
    have ec : c' = c := Option.some.inj ((show am_dsc μ k' = some c' from h').symm.trans h)
    subst ec
    split
    next e => subst e; exact hx
    next => exact (I.2 k' c' h').1 i
  next => exact (I.2 k' c' h').1 i
theorem am_R.row {ft : List (List Nat)} {μ : am_M} (I : am_R ft μ) {k : Nat} {f : Nat → Int} {c : am_C} (h : am_dsc μ k = some c) (hx : ∀ j, am_okT (am_tyc ft c j) (f j) = true) : am_R ft (μ.1, μ.2.1, am_row μ.2.2 k f) := by
  refine ⟨I.1, fun k' c' h' => ⟨fun i => ?_, (I.2 k' c' h').2⟩⟩
  show am_okT _ (am_row μ.2.2 k f k' i) = true
  unfold am_row
  split
  next e =>
    subst e
    have ec : c' = c := Option.some.inj ((show am_dsc μ k' = some c' from h').symm.trans h)
    subst ec
    exact hx i
  next => exact (I.2 k' c' h').1 i
/-- a new cell -/
theorem am_R.new {ft : List (List Nat)} {μ : am_M} (I : am_R ft μ) (hl : μ.1.length < 1000) (c : am_C) (hr : ∀ j r : Nat, c.2.2[j]? ≠ some (r + 1)) : am_R ft (μ.1 ++ [c], μ.2.1, am_row μ.2.2 μ.1.length (fun _ => 0)) := by
  refine ⟨by simp; omega, fun k' c' h' => ?_⟩
  have hlen : (μ.1 ++ [c]).length = μ.1.length + 1 := by simp
  have old : ∀ (z : am_dsc μ k' = some c') (hk : k' ≠ μ.1.length), (∀ j, am_okT (am_tyc ft c' j) (am_row μ.2.2 μ.1.length (fun _ => 0) k' j) = true) ∧ ∀ j r : Nat, c'.2.2[j]? = some (r + 1) → (r < (μ.1 ++ [c]).length ∨ 1000 ≤ r) := by
    intro z hk
    refine ⟨fun j => ?_, fun j r h => ?_⟩
    · unfold am_row
      rw [if_neg hk]
      exact (I.2 k' c' z).1 j
    · rcases (I.2 k' c' z).2 j r h with q | q
      · exact Or.inl (by rw [hlen]; omega)
      · exact Or.inr q
  unfold am_dsc at h'
  split at h'
  next hk =>
    by_cases hlt : k' < μ.1.length
    · refine old ?_ (by omega)
      unfold am_dsc
      rw [if_pos hk]
      exact (List.getElem?_append_left hlt).symm.trans h'
    · have h2 : (μ.1 ++ [c])[k']? = some c' := h'
      have hk2 : k' < μ.1.length + 1 := by rw [← hlen]; exact (List.getElem?_eq_some_iff.mp h2).1
      have e : k' = μ.1.length := by omega
      subst e
      have ec : c = c' := by simpa using h2
      subst ec
      refine ⟨fun j => ?_, fun j r h => absurd h (hr j r)⟩
      show am_okT _ (am_row μ.2.2 μ.1.length (fun _ => 0) μ.1.length j) = true
      unfold am_row
      rw [if_pos rfl]
      exact am_okT0
  next hk =>
    refine old ?_ (by omega)
    unfold am_dsc
    rw [if_neg hk]
    exact h'
theorem am_sl_new {μ : am_M} {c : am_C} {r : List am_C} {σ : Nat → Nat → Int} : am_sl (μ.1 ++ [c], r, σ) = am_sl μ + c.2.1 := by
  unfold am_sl
  simp
theorem am_sl_set {l : List am_C} {k : Nat} {c c' : am_C} (h : l[k]? = some c) (e : c'.2.1 = c.2.1) : ((l.set k c').map (fun c => c.2.1)) = l.map (fun c => c.2.1) := by
  apply List.ext_getElem?
  intro i
  rw [List.getElem?_map, List.getElem?_map]
  by_cases hi : i = k
  · subst hi
    rw [List.getElem?_set_self (List.getElem?_eq_some_iff.mp h).1, h]
    simp [e]
  · rw [List.getElem?_set_ne (Ne.symm hi)]
/-- one instruction keeps all that -/
def am_okc (e : am_E) : Prop := (e.1 = 6 → -2147483648 ≤ e.2.2.2.2.2.1 ∧ e.2.2.2.2.2.1 < 2147483648) ∧ (e.1 = 7 → -9223372036854775808 ≤ e.2.2.2.2.2.1 ∧ e.2.2.2.2.2.1 < 9223372036854775808)
section PRES
variable {ft : List (List Nat)} {μ μ' : am_M} {L L' : am_L} {S S' : List am_V} {pc' n t a b : Nat}
theorem am_p_load (h : am_sload t a n L S μ = some (pc', L', S', μ')) (I : am_I ft μ L S) : am_I ft μ' L' S' ∧ am_G μ μ' := by
  unfold am_sload at h
  split at h
  next v hv =>
    split at h
    next =>
      simp only [Option.some.injEq, Prod.mk.injEq] at h
      obtain ⟨-, rfl, rfl, rfl⟩ := h
      exact ⟨I.push (I.loc hv), am_G.rf⟩
    next => cases h
  next => cases h
theorem am_p_store (h : am_sstore t a n L S μ = some (pc', L', S', μ')) (I : am_I ft μ L S) : am_I ft μ' L' S' ∧ am_G μ μ' := by
  unfold am_sstore at h
  split at h
  next v S1 =>
    split at h
    next =>
      simp only [Option.some.injEq, Prod.mk.injEq] at h
      obtain ⟨-, rfl, rfl, rfl⟩ := h
      exact ⟨I.pop.store I.top, am_G.rf⟩
    next => cases h
  next => cases h
theorem am_p_bin (h : am_sbin a n L S μ = some (pc', L', S', μ')) (I : am_I ft μ L S) : am_I ft μ' L' S' ∧ am_G μ μ' := by
  unfold am_sbin at h
  split at h
  next =>
    simp only [Option.some.injEq, Prod.mk.injEq] at h
    obtain ⟨-, rfl, rfl, rfl⟩ := h
    exact ⟨I.pop.pop.push (am_obin _ _ _), am_G.rf⟩
  next => cases h
theorem am_p_div (h : am_sdiv a n L S μ = some (pc', L', S', μ')) (I : am_I ft μ L S) : am_I ft μ' L' S' ∧ am_G μ μ' := by
  unfold am_sdiv at h
  split at h
  next =>
    split at h
    next => cases h
    next =>
      simp only [Option.some.injEq, Prod.mk.injEq] at h
      obtain ⟨-, rfl, rfl, rfl⟩ := h
      refine ⟨I.pop.pop.push ?_, am_G.rf⟩
      split
      · exact am_w32_rng _
      · exact am_w32_rng _
  next => cases h
theorem am_p_neg (h : am_sneg n L S μ = some (pc', L', S', μ')) (I : am_I ft μ L S) : am_I ft μ' L' S' ∧ am_G μ μ' := by
  unfold am_sneg at h
  split at h
  next =>
    simp only [Option.some.injEq, Prod.mk.injEq] at h
    obtain ⟨-, rfl, rfl, rfl⟩ := h
    exact ⟨I.pop.push (am_w32_rng _), am_G.rf⟩
  next => cases h
theorem am_p_lbin (h : am_slbin a n L S μ = some (pc', L', S', μ')) (I : am_I ft μ L S) : am_I ft μ' L' S' ∧ am_G μ μ' := by
  unfold am_slbin at h
  split at h
  next =>
    simp only [Option.some.injEq, Prod.mk.injEq] at h
    obtain ⟨-, rfl, rfl, rfl⟩ := h
    refine ⟨I.pop.pop.push ?_, am_G.rf⟩
    show -9223372036854775808 ≤ am_lbin a _ _ ∧ am_lbin a _ _ < 9223372036854775808
    unfold am_lbin
    split
    · exact am_w64_rng _
    · exact am_w64_rng _
  next => cases h
theorem am_p_conv (h : am_sconv a n L S μ = some (pc', L', S', μ')) (I : am_I ft μ L S) : am_I ft μ' L' S' ∧ am_G μ μ' := by
  unfold am_sconv at h
  split at h
  next =>
    simp only [Option.some.injEq, Prod.mk.injEq] at h
    obtain ⟨-, rfl, rfl, rfl⟩ := h
    have := I.top
    refine ⟨I.pop.push ?_, am_G.rf⟩
    simp only [am_okV] at this ⊢
    omega
  next =>
    simp only [Option.some.injEq, Prod.mk.injEq] at h
    obtain ⟨-, rfl, rfl, rfl⟩ := h
    exact ⟨I.pop.push (am_w32_rng _), am_G.rf⟩
  next =>
    simp only [Option.some.injEq, Prod.mk.injEq] at h
    obtain ⟨-, rfl, rfl, rfl⟩ := h
    refine ⟨I.pop.push ?_, am_G.rf⟩
    simp only [am_okV, am_i2b]
    omega
  next =>
    simp only [Option.some.injEq, Prod.mk.injEq] at h
    obtain ⟨-, rfl, rfl, rfl⟩ := h
    refine ⟨I.pop.push ?_, am_G.rf⟩
    simp only [am_okV, am_i2c]
    omega
  next => cases h
theorem am_p_lcmp (h : am_slcmp n L S μ = some (pc', L', S', μ')) (I : am_I ft μ L S) : am_I ft μ' L' S' ∧ am_G μ μ' := by
  unfold am_slcmp at h
  split at h
  next =>
    simp only [Option.some.injEq, Prod.mk.injEq] at h
    obtain ⟨-, rfl, rfl, rfl⟩ := h
    refine ⟨I.pop.pop.push ?_, am_G.rf⟩
    simp only [am_okV, am_lcmp]
    split
    · omega
    · split <;> omega
  next => cases h
theorem am_p_inc {c : Int} (h : am_sinc a c n L S μ = some (pc', L', S', μ')) (I : am_I ft μ L S) : am_I ft μ' L' S' ∧ am_G μ μ' := by
  unfold am_sinc at h
  split at h
  next =>
    simp only [Option.some.injEq, Prod.mk.injEq] at h
    obtain ⟨-, rfl, rfl, rfl⟩ := h
    exact ⟨I.store (am_w32_rng _), am_G.rf⟩
  next => cases h
theorem am_p_if {tgt : Nat} (h : am_sif a tgt n L S μ = some (pc', L', S', μ')) (I : am_I ft μ L S) : am_I ft μ' L' S' ∧ am_G μ μ' := by
  unfold am_sif at h
  split at h
  next =>
    simp only [Option.some.injEq, Prod.mk.injEq] at h
    obtain ⟨-, rfl, rfl, rfl⟩ := h
    exact ⟨I.pop, am_G.rf⟩
  next => cases h
theorem am_p_icmp {tgt : Nat} (h : am_sicmp a tgt n L S μ = some (pc', L', S', μ')) (I : am_I ft μ L S) : am_I ft μ' L' S' ∧ am_G μ μ' := by
  unfold am_sicmp at h
  split at h
  next =>
    simp only [Option.some.injEq, Prod.mk.injEq] at h
    obtain ⟨-, rfl, rfl, rfl⟩ := h
    exact ⟨I.pop.pop, am_G.rf⟩
  next => cases h
theorem am_p_tsw {lo : Int} {offs : List Nat} (h : am_stsw b lo offs L S μ = some (pc', L', S', μ')) (I : am_I ft μ L S) : am_I ft μ' L' S' ∧ am_G μ μ' := by
  unfold am_stsw at h
  split at h
  next =>
    split at h
    next =>
      simp only [Option.some.injEq, Prod.mk.injEq] at h
      obtain ⟨-, rfl, rfl, rfl⟩ := h
      exact ⟨I.pop, am_G.rf⟩
    next =>
      split at h
      next =>
        simp only [Option.some.injEq, Prod.mk.injEq] at h
        obtain ⟨-, rfl, rfl, rfl⟩ := h
        exact ⟨I.pop, am_G.rf⟩
      next => cases h
  next => cases h
theorem am_p_dup (h : am_sdup n L S μ = some (pc', L', S', μ')) (I : am_I ft μ L S) : am_I ft μ' L' S' ∧ am_G μ μ' := by
  unfold am_sdup at h
  split at h
  next =>
    split at h
    next => cases h
    next =>
      simp only [Option.some.injEq, Prod.mk.injEq] at h
      obtain ⟨-, rfl, rfl, rfl⟩ := h
      exact ⟨I.push I.top, am_G.rf⟩
  next => cases h
theorem am_p_dup2 (h : am_sdup2 n L S μ = some (pc', L', S', μ')) (I : am_I ft μ L S) : am_I ft μ' L' S' ∧ am_G μ μ' := by
  unfold am_sdup2 at h
  split at h
  next =>
    split at h
    next => cases h
    next =>
      simp only [Option.some.injEq, Prod.mk.injEq] at h
      obtain ⟨-, rfl, rfl, rfl⟩ := h
      exact ⟨(I.push I.pop.top).push I.top, am_G.rf⟩
  next => cases h
theorem am_p_pop (h : am_spop n L S μ = some (pc', L', S', μ')) (I : am_I ft μ L S) : am_I ft μ' L' S' ∧ am_G μ μ' := by
  unfold am_spop at h
  split at h
  next =>
    split at h
    next => cases h
    next =>
      simp only [Option.some.injEq, Prod.mk.injEq] at h
      obtain ⟨-, rfl, rfl, rfl⟩ := h
      exact ⟨I.pop, am_G.rf⟩
  next => cases h
theorem am_tyc_obj {c : am_C} {ci j : Nat} (h : c.1 = 4 + ci) : am_tyc ft c j = am_ft ft ci j := by
  unfold am_tyc
  rw [if_neg (by omega), h, Nat.add_sub_cancel_left]
theorem am_tyc_arr {c : am_C} {j : Nat} (h : c.1 < 4) : am_tyc ft c j = c.1 := by
  unfold am_tyc
  rw [if_pos h]
theorem am_p_getf {ci j : Nat} (h : am_sgetf ft ci j n L S μ = some (pc', L', S', μ')) (I : am_I ft μ L S) : am_I ft μ' L' S' ∧ am_G μ μ' := by
  unfold am_sgetf at h
  split at h
  next k S1 =>
    split at h
    next kd N rs hd =>
      split at h
      next hc =>
        split at h
        next v hv =>
          simp only [Option.some.injEq, Prod.mk.injEq] at h
          obtain ⟨-, rfl, rfl, rfl⟩ := h
          refine ⟨I.pop.push ?_, am_G.rf⟩
          have h1 := (I.1.2 k _ hd).1 j
          rw [am_tyc_obj (c := (kd, N, rs)) hc.1] at h1
          unfold am_fget at hv
          split at hv
          next e => cases hv; rw [e] at h1; exact am_okT32 (by omega) h1
          next e => cases hv; rw [e] at h1; exact am_okT32 (by omega) h1
          next e => cases hv; rw [e] at h1; exact am_okT32 (by omega) h1
          next e => cases hv; rw [e] at h1; exact am_okT64 h1
          next =>
            split at hv
            next r hr => cases hv; exact (I.1.2 k _ hd).2 j r hr
            next => cases hv
        next => cases h
      next => cases h
    next => cases h
  next => cases h
theorem am_p_putf {ci j : Nat} (h : am_sputf ft ci j n L S μ = some (pc', L', S', μ')) (I : am_I ft μ L S) : am_I ft μ' L' S' ∧ am_G μ μ' := by
  unfold am_sputf at h
  split at h
  next x k S1 =>
    split at h
    next kd N rs hd =>
      split at h
      next hc =>
        simp only [Option.some.injEq, Prod.mk.injEq] at h
        obtain ⟨-, rfl, rfl, rfl⟩ := h
        exact ⟨⟨I.1.upd (am_dsc_rw I.1.1 hd) (by rw [am_tyc_obj (c := (kd, N, rs)) hc.1]; exact hc.2.2.2), I.2.1, I.pop.pop.2.2⟩, am_G.upd (am_lt1000 I.1.1 hd)⟩
      next => cases h
    next => cases h
  next x k S1 =>
    split at h
    next kd N rs hd =>
      split at h
      next hc =>
        simp only [Option.some.injEq, Prod.mk.injEq] at h
        obtain ⟨-, rfl, rfl, rfl⟩ := h
        refine ⟨⟨I.1.upd (am_dsc_rw I.1.1 hd) ?_, I.2.1, I.pop.pop.2.2⟩, am_G.upd (am_lt1000 I.1.1 hd)⟩
        rw [am_tyc_obj (c := (kd, N, rs)) hc.1, hc.2.2]
        have := I.top
        simp only [am_okV] at this
        simp [am_okT]
        omega
      next => cases h
    next => cases h
  next r k S1 =>
    split at h
    next kd N rs hd =>
      split at h
      next hc =>
        simp only [Option.some.injEq, Prod.mk.injEq] at h
        obtain ⟨-, rfl, rfl, rfl⟩ := h
        have hk : k < μ.1.length := (List.getElem?_eq_some_iff.mp hd).1
        have hlen : (μ.1.set k (kd, N, rs.set j (r + 1))).length = μ.1.length := List.length_set
        refine ⟨⟨⟨by rw [hlen]; exact I.1.1, fun k' c' h' => ?_⟩, fun v hv => by rw [hlen]; exact I.2.1 v hv, fun v hv => by rw [hlen]; exact I.pop.pop.2.2 v hv⟩, ⟨by rw [hlen]; exact Nat.le_refl _, ?_, rfl, fun _ _ => rfl⟩⟩
        · by_cases e : k' = k
          · subst e
            have hk2 : k' < 1000 := by have := I.1.1; omega
            have ec : c' = (kd, N, rs.set j (r + 1)) := by
              unfold am_dsc at h'
              rw [if_pos hk2] at h'
              rw [List.getElem?_set_self hk] at h'
              exact (Option.some.inj h').symm
            subst ec
            have h0 := I.1.2 k' _ (am_dsc_rw I.1.1 hd)
            refine ⟨fun i => h0.1 i, fun i q hq => ?_⟩
            rw [hlen]
            have hq' : (rs.set j (r + 1))[i]? = some (q + 1) := hq
            by_cases ei : i = j
            · subst ei
              have hi : i < rs.length := by rw [← List.length_set (as := rs) (i := i) (a := r + 1)]; exact (List.getElem?_eq_some_iff.mp hq').1
              rw [List.getElem?_set_self hi] at hq'
              have : r = q := by simpa using hq'
              subst this
              exact I.top
            · rw [List.getElem?_set_ne (Ne.symm ei)] at hq'
              exact h0.2 i q hq'
          · have h2 : am_dsc μ k' = some c' := by
              unfold am_dsc at h' ⊢
              split at h'
              next z =>
                rw [if_pos z]
                rw [List.getElem?_set_ne (Ne.symm e)] at h'
                exact h'
              next z => rw [if_neg z]; exact h'
            refine ⟨(I.1.2 k' c' h2).1, fun i q hq => ?_⟩
            rw [hlen]
            exact (I.1.2 k' c' h2).2 i q hq
        · have hz := am_sl_set (c' := (kd, N, rs.set j (r + 1))) hd rfl
          show am_sl μ ≤ ((μ.1.set k (kd, N, rs.set j (r + 1))).map (fun c => c.2.1)).sum
          rw [hz]
          exact Nat.le_refl _
      next => cases h
    next => cases h
  next => cases h
theorem am_p_gets (h : am_sgets a n L S μ = some (pc', L', S', μ')) (I : am_I ft μ L S) : am_I ft μ' L' S' ∧ am_G μ μ' := by
  unfold am_sgets at h
  split at h
  next =>
    simp only [Option.some.injEq, Prod.mk.injEq] at h
    obtain ⟨-, rfl, rfl, rfl⟩ := h
    exact ⟨I.push (Or.inr (by omega)), am_G.rf⟩
  next =>
    simp only [Option.some.injEq, Prod.mk.injEq] at h
    obtain ⟨-, rfl, rfl, rfl⟩ := h
    exact ⟨I.push (by simp only [am_okV]; omega), am_G.rf⟩
  next => cases h
theorem am_p_ald (h : am_sald a n L S μ = some (pc', L', S', μ')) (ha : a < 4) (I : am_I ft μ L S) : am_I ft μ' L' S' ∧ am_G μ μ' := by
  unfold am_sald at h
  split at h
  next i k S1 =>
    split at h
    next kd N rs hd =>
      split at h
      next hc =>
        simp only [Option.some.injEq, Prod.mk.injEq] at h
        obtain ⟨-, rfl, rfl, rfl⟩ := h
        refine ⟨I.pop.pop.push ?_, am_G.rf⟩
        have h1 := (I.1.2 k _ hd).1 i.toNat
        rw [am_tyc_arr (c := (kd, N, rs)) (by show kd < 4; omega)] at h1
        have h1 : am_okT kd _ = true := h1
        rw [hc.1] at h1
        split
        next e => subst e; exact am_okT64 h1
        next e => exact am_okT32 (by omega) h1
      next => cases h
    next => cases h
  next => cases h
theorem am_p_ast (h : am_sast a n L S μ = some (pc', L', S', μ')) (I : am_I ft μ L S) : am_I ft μ' L' S' ∧ am_G μ μ' := by
  unfold am_sast at h
  split at h
  next x i k S1 =>
    split at h
    next kd N rs hd =>
      split at h
      next hc =>
        simp only [Option.some.injEq, Prod.mk.injEq] at h
        obtain ⟨-, rfl, rfl, rfl⟩ := h
        refine ⟨⟨I.1.upd (am_dsc_rw I.1.1 hd) ?_, I.2.1, I.pop.pop.pop.2.2⟩, am_G.upd (am_lt1000 I.1.1 hd)⟩
        rw [am_tyc_arr (c := (kd, N, rs)) (by show kd < 4; omega)]
        show am_okT kd x = true
        rw [hc.1]
        exact hc.2.2.2.2
      next => cases h
    next => cases h
  next x i k S1 =>
    split at h
    next kd N rs hd =>
      split at h
      next hc =>
        simp only [Option.some.injEq, Prod.mk.injEq] at h
        obtain ⟨-, rfl, rfl, rfl⟩ := h
        refine ⟨⟨I.1.upd (am_dsc_rw I.1.1 hd) ?_, I.2.1, I.pop.pop.pop.2.2⟩, am_G.upd (am_lt1000 I.1.1 hd)⟩
        rw [am_tyc_arr (c := (kd, N, rs)) (by show kd < 4; omega)]
        show am_okT kd x = true
        rw [hc.1, hc.2.1]
        have := I.top
        simp only [am_okV] at this
        simp [am_okT]
        omega
      next => cases h
    next => cases h
  next => cases h
theorem am_p_alen (h : am_salen n L S μ = some (pc', L', S', μ')) (I : am_I ft μ L S) : am_I ft μ' L' S' ∧ am_G μ μ' := by
  unfold am_salen at h
  split at h
  next =>
    split at h
    next =>
      split at h
      next hc =>
        simp only [Option.some.injEq, Prod.mk.injEq] at h
        obtain ⟨-, rfl, rfl, rfl⟩ := h
        exact ⟨I.pop.push (by simp only [am_okV]; omega), am_G.rf⟩
      next => cases h
    next => cases h
  next => cases h
theorem am_I.grow {c : am_C} (I : am_I ft μ L S) (hl : μ.1.length < 1000) (hr : ∀ j r : Nat, c.2.2[j]? ≠ some (r + 1)) : am_I ft (μ.1 ++ [c], μ.2.1, am_row μ.2.2 μ.1.length (fun _ => 0)) L (vP μ.1.length :: S) ∧ am_G μ (μ.1 ++ [c], μ.2.1, am_row μ.2.2 μ.1.length (fun _ => 0)) := by
  have hlen : (μ.1 ++ [c]).length = μ.1.length + 1 := by simp
  refine ⟨⟨I.1.new hl c hr, fun v hv => ?_, fun v hv => ?_⟩, ⟨by show _ ≤ (μ.1 ++ [c]).length; omega, by rw [am_sl_new]; omega, rfl, fun i hi => am_row_ne (by omega)⟩⟩
  · show am_okV (μ.1 ++ [c]).length v
    exact (I.2.1 v hv).mono (by omega)
  · show am_okV (μ.1 ++ [c]).length v
    rcases List.mem_cons.mp hv with e | e
    · subst e; exact Or.inl (by omega)
    · exact (I.2.2 v e).mono (by omega)
theorem am_p_new {ci N : Nat} (h : am_snew ci N n L S μ = some (pc', L', S', μ')) (I : am_I ft μ L S) : am_I ft μ' L' S' ∧ am_G μ μ' := by
  unfold am_snew at h
  split at h
  next hl =>
    simp only [Option.some.injEq, Prod.mk.injEq] at h
    obtain ⟨-, rfl, rfl, rfl⟩ := h
    refine I.grow hl (fun j r z => ?_)
    have z : (List.replicate N 0)[j]? = some (r + 1) := z
    have := List.eq_of_mem_replicate (List.mem_of_getElem? z)
    omega
  next => cases h
theorem am_p_newa (h : am_snewa a n L S μ = some (pc', L', S', μ')) (I : am_I ft μ L S) : am_I ft μ' L' S' ∧ am_G μ μ' := by
  unfold am_snewa at h
  split at h
  next =>
    split at h
    next hc =>
      simp only [Option.some.injEq, Prod.mk.injEq] at h
      obtain ⟨-, rfl, rfl, rfl⟩ := h
      refine I.pop.grow hc.1 (fun j r z => ?_)
      have z : ([] : List Nat)[j]? = some (r + 1) := z
      simp at z
    next => cases h
  next => cases h
theorem am_p_copy (h : am_scopy a n L S μ = some (pc', L', S', μ')) (I : am_I ft μ L S) : am_I ft μ' L' S' ∧ am_G μ μ' := by
  unfold am_scopy at h
  split at h
  next m dp k1 sp k0 S1 =>
    split at h
    next kd0 N0 r0 kd1 N1 r1 h0 h1 =>
      split at h
      next hc =>
        simp only [Option.some.injEq, Prod.mk.injEq] at h
        obtain ⟨-, rfl, rfl, rfl⟩ := h
        refine ⟨⟨I.1.row (am_dsc_rw I.1.1 h1) (fun j => ?_), I.2.1, I.pop.pop.pop.pop.pop.2.2⟩, am_G.row (am_lt1000 I.1.1 h1)⟩
        have g0 : ∀ i, am_okT kd0 (μ.2.2 k0 i) = true := fun i => by
          have z := (I.1.2 k0 _ (am_dsc_rw I.1.1 h0)).1 i
          rw [am_tyc_arr (c := (kd0, N0, r0)) (by show kd0 < 4; omega)] at z
          exact z
        have g1 : ∀ i, am_okT kd1 (μ.2.2 k1 i) = true := fun i => by
          have z := (I.1.2 k1 _ (am_dsc_rw I.1.1 h1)).1 i
          rw [am_tyc_arr (c := (kd1, N1, r1)) (by show kd1 < 4; omega)] at z
          exact z
        rw [am_tyc_arr (c := (kd1, N1, r1)) (by show kd1 < 4; omega)]
        show am_okT kd1 _ = true
        have e : kd0 = kd1 := by omega
        subst e
        unfold am_cp
        split
        · exact g0 _
        · exact g1 _
      next => cases h
    next => cases h
  next => cases h
theorem am_p_math (h : am_smath a n L S μ = some (pc', L', S', μ')) (I : am_I ft μ L S) : am_I ft μ' L' S' ∧ am_G μ μ' := by
  unfold am_smath at h
  split at h
  next y x S1 =>
    split at h
    next =>
      simp only [Option.some.injEq, Prod.mk.injEq] at h
      obtain ⟨-, rfl, rfl, rfl⟩ := h
      refine ⟨I.pop.pop.push ?_, am_G.rf⟩
      split
      · exact I.top
      · exact I.pop.top
    next => cases h
  next y x S1 =>
    split at h
    next =>
      simp only [Option.some.injEq, Prod.mk.injEq] at h
      obtain ⟨-, rfl, rfl, rfl⟩ := h
      refine ⟨I.pop.pop.push ?_, am_G.rf⟩
      split
      · exact I.top
      · exact I.pop.top
    next => cases h
  next x S1 =>
    split at h
    next =>
      simp only [Option.some.injEq, Prod.mk.injEq] at h
      obtain ⟨-, rfl, rfl, rfl⟩ := h
      refine ⟨I.pop.push ?_, am_G.rf⟩
      split
      · exact I.top
      · exact am_w32_rng _
    next => cases h
  next => cases h
theorem am_p_oinit (h : am_soinit n L S μ = some (pc', L', S', μ')) (I : am_I ft μ L S) : am_I ft μ' L' S' ∧ am_G μ μ' := by
  unfold am_soinit at h
  split at h
  next =>
    split at h
    next =>
      simp only [Option.some.injEq, Prod.mk.injEq] at h
      obtain ⟨-, rfl, rfl, rfl⟩ := h
      exact ⟨I.pop, am_G.rf⟩
    next => cases h
  next => cases h
theorem am_p_chk (h : am_schk n L S μ = some (pc', L', S', μ')) (I : am_I ft μ L S) : am_I ft μ' L' S' ∧ am_G μ μ' := by
  unfold am_schk at h
  split at h
  next =>
    split at h
    next =>
      simp only [Option.some.injEq, Prod.mk.injEq] at h
      obtain ⟨-, rfl, rfl, rfl⟩ := h
      exact ⟨I.pop.pop, am_G.rf⟩
    next => cases h
  next => cases h
theorem am_p_step {e : am_E} {pc : Nat} (hok : am_okc e) (hald : e.1 = 26 → e.2.2.1 < 4) (h : am_step ft e pc L S μ = some (pc', L', S', μ')) (I : am_I ft μ L S) : am_I ft μ' L' S' ∧ am_G μ μ' := by
  obtain ⟨op, len, a, b, d, c, ks, offs⟩ := e
  unfold am_step at h
  dsimp only at h hald
  split at h
  · exact am_p_load h I
  · exact am_p_load h I
  · exact am_p_load h I
  · exact am_p_store h I
  · exact am_p_store h I
  · exact am_p_store h I
  · simp only [Option.some.injEq, Prod.mk.injEq] at h
    obtain ⟨-, rfl, rfl, rfl⟩ := h
    exact ⟨I.push (hok.1 rfl), am_G.rf⟩
  · simp only [Option.some.injEq, Prod.mk.injEq] at h
    obtain ⟨-, rfl, rfl, rfl⟩ := h
    exact ⟨I.push (hok.2 rfl), am_G.rf⟩
  · exact am_p_bin h I
  · exact am_p_div h I
  · exact am_p_div h I
  · exact am_p_neg h I
  · exact am_p_lbin h I
  · exact am_p_conv h I
  · exact am_p_lcmp h I
  · exact am_p_inc h I
  · exact am_p_if h I
  · exact am_p_icmp h I
  · simp only [Option.some.injEq, Prod.mk.injEq] at h
    obtain ⟨-, rfl, rfl, rfl⟩ := h
    exact ⟨I, am_G.rf⟩
  · exact am_p_tsw h I
  · exact am_p_dup h I
  · exact am_p_dup2 h I
  · exact am_p_pop h I
  · exact am_p_getf h I
  · exact am_p_putf h I
  · exact am_p_gets h I
  · exact am_p_ald h (hald rfl) I
  · exact am_p_ast h I
  · exact am_p_alen h I
  · exact am_p_new h I
  · exact am_p_newa h I
  · exact am_p_copy h I
  · exact am_p_math h I
  · exact am_p_chk h I
  · exact am_p_oinit h I
  · simp only [Option.some.injEq, Prod.mk.injEq] at h
    obtain ⟨-, rfl, rfl, rfl⟩ := h
    exact ⟨I.push (Or.inr (by omega)), am_G.rf⟩
  · cases h
theorem am_ent0_mem {v : am_V} : ∀ {vs : List am_V}, some v ∈ am_ent0 vs → v ∈ vs
  | [], h => by cases h
  | u :: vs, h => by
    unfold am_ent0 at h
    split at h
    · rcases List.mem_cons.mp h with e | e
      · cases e; exact List.mem_cons_self
      · rcases List.mem_cons.mp e with e | e
        · cases e
        · exact List.mem_cons_of_mem _ (am_ent0_mem e)
    · rcases List.mem_cons.mp h with e | e
      · cases e; exact List.mem_cons_self
      · exact List.mem_cons_of_mem _ (am_ent0_mem e)
theorem am_ent_mem {v : am_V} {N : Nat} {vs : List am_V} (h : some v ∈ am_ent N vs) : v ∈ vs := by
  rcases List.mem_append.mp h with h | h
  · exact am_ent0_mem h
  · cases List.eq_of_mem_replicate h
theorem am_ret_ok {r : Option am_V} {N : Nat} (h : am_ret a S = some r) (hS : ∀ v ∈ S, am_okV N v) : ∀ v, r = some v → am_okV N v := by
  intro v hv
  subst hv
  unfold am_ret at h
  split at h
  · cases h
  · cases h; exact hS _ List.mem_cons_self
  · split at h
    · cases h; exact hS _ List.mem_cons_self
    · cases h
  · split at h
    · cases h; exact hS _ List.mem_cons_self
    · cases h
  · split at h
    · cases h; exact hS _ List.mem_cons_self
    · cases h
  · cases h; exact hS _ List.mem_cons_self
  · cases h
/-- a whole run keeps all that -/
theorem am_p_run {mL : Nat → Nat} {code : Nat → Nat → Option am_E} (hok : ∀ mid pc e, code mid pc = some e → am_okc e ∧ (e.1 = 26 → e.2.2.1 < 4)) : ∀ (n mid pc : Nat) (L : am_L) (S : List am_V) (μ : am_M) (r : Option am_V) (μ' : am_M), am_run ft mL code n mid pc L S μ = some (r, μ') → am_I ft μ L S → (am_R ft μ' ∧ ∀ v, r = some v → am_okV μ'.1.length v) ∧ am_G μ μ' := by
  intro n
  induction n with
  | zero => intro mid pc L S μ r μ' h; cases h
  | succ n ih =>
    intro mid pc L S μ r μ' h I
    unfold am_run at h
    split at h
    next => cases h
    next op len a b d c ks offs he =>
      obtain ⟨h1, h2⟩ := hok _ _ _ he
      split at h
      next =>
        split at h
        next hc =>
          split at h
          next => cases h
          next r1 μ1 hr1 =>
            obtain ⟨⟨g1, g2⟩, g3⟩ := ih _ _ _ _ _ _ _ hr1 ⟨I.1, fun v hv => I.2.2 v (List.mem_of_mem_take (List.mem_reverse.mp (am_ent_mem hv))), fun v hv => by cases hv⟩
            obtain ⟨k1, k2⟩ := ih _ _ _ _ _ _ _ h ⟨g1, fun v hv => (I.2.1 v (am_mem_kill hv)).mono g3.1, fun v hv => by
              rcases List.mem_append.mp hv with z | z
              · exact g2 v (by simpa using z)
              · exact (I.2.2 v (List.mem_of_mem_drop z)).mono g3.1⟩
            exact ⟨k1, g3.tr k2⟩
        next => cases h
      next =>
        split at h
        next =>
          split at h
          next => cases h
          next r1 hr1 =>
            simp only [Option.some.injEq, Prod.mk.injEq] at h
            obtain ⟨rfl, rfl⟩ := h
            exact ⟨⟨I.1, am_ret_ok hr1 I.2.2⟩, am_G.rf⟩
        next =>
          split at h
          next => cases h
          next pc1 L1 S1 μ1 hs =>
            obtain ⟨g1, g2⟩ := am_p_step h1 h2 hs (I.kill ks)
            obtain ⟨k1, k2⟩ := ih _ _ _ _ _ _ _ h g1
            exact ⟨k1, g2.tr k2⟩
end PRES
end
section
/-! the abstract state beside the machine's -/
def am_rv (ad : Nat → Nat) : am_V → Value
  | .inl x => .int (Int32.ofInt x)
  | .inr (.inl x) => .long (Int64.ofInt x)
  | .inr (.inr k) => .ref (ad k)
def am_fv (ft : List (List Nat)) (ad : Nat → Nat) (f : Nat → Int) (ci : Nat) (rs : List Nat) (j : Nat) : Value := match am_ft ft ci j with
  | 0 => .int (Int32.ofInt (f j))
  | 1 => .int (Int32.ofInt (f j))
  | 2 => .int (Int32.ofInt (f j))
  | 3 => .long (Int64.ofInt (f j))
  | _ => match rs[j]? with
    | some (r + 1) => .ref (ad r)
    | _ => .null
def am_cell (ft : List (List Nat)) (ad : Nat → Nat) (cA : Nat → ClassId) (f : Nat → Int) (c : am_C) : va_E :=
  if c.1 < 3 then .inl (cA c.1, c.2.1, .inl (fun i => Int32.ofInt (f i)))
  else if c.1 = 3 then .inl (cA 3, c.2.1, .inr (.inl (fun i => Int64.ofInt (f i))))
  else .inr (c.1 - 4, (List.range c.2.1).map (am_fv ft ad f (c.1 - 4) c.2.2))
def am_ws (ft : List (List Nat)) (ad : Nat → Nat) (cA : Nat → ClassId) (μ : am_M) : va_W := μ.1.mapIdx (fun k c => (ad k, am_cell ft ad cA (μ.2.2 k) c))
def am_tys (cA : Nat → ClassId) : List (ClassId × FieldType) := [(cA 0, .int), (cA 1, .byte), (cA 2, .boolean), (cA 3, .long)]
theorem am_ws_len {ft : List (List Nat)} {ad : Nat → Nat} {cA : Nat → ClassId} {μ : am_M} : (am_ws ft ad cA μ).length = μ.1.length := by simp [am_ws]
theorem am_ws_get {ft : List (List Nat)} {ad : Nat → Nat} {cA : Nat → ClassId} {μ : am_M} {k : Nat} {c : am_C} (h : μ.1[k]? = some c) : (am_ws ft ad cA μ)[k]? = some (ad k, am_cell ft ad cA (μ.2.2 k) c) := by
  unfold am_ws
  rw [List.getElem?_mapIdx, h]
  rfl
theorem am_cell_a {ft : List (List Nat)} {ad : Nat → Nat} {cA : Nat → ClassId} {f : Nat → Int} {kd N : Nat} {rs : List Nat} (h : kd < 3) : am_cell ft ad cA f (kd, N, rs) = .inl (cA kd, N, .inl (fun i => Int32.ofInt (f i))) := by
  unfold am_cell
  rw [if_pos h]
theorem am_cell_l {ft : List (List Nat)} {ad : Nat → Nat} {cA : Nat → ClassId} {f : Nat → Int} {N : Nat} {rs : List Nat} : am_cell ft ad cA f (3, N, rs) = .inl (cA 3, N, .inr (.inl (fun i => Int64.ofInt (f i)))) := by
  unfold am_cell
  rw [if_neg (by show ¬ (3 < 3); omega), if_pos rfl]
theorem am_cell_o {ft : List (List Nat)} {ad : Nat → Nat} {cA : Nat → ClassId} {f : Nat → Int} {ci N : Nat} {rs : List Nat} : am_cell ft ad cA f (4 + ci, N, rs) = .inr (ci, (List.range N).map (am_fv ft ad f ci rs)) := by
  unfold am_cell
  rw [if_neg (by show ¬ (4 + ci < 3); omega), if_neg (by show ¬ (4 + ci = 3); omega)]
  show Sum.inr (4 + ci - 4, (List.range N).map (am_fv ft ad f (4 + ci - 4) rs)) = _
  rw [Nat.add_sub_cancel_left]
/-- only the cell k has changed -/
theorem am_ws_set {ft : List (List Nat)} {ad : Nat → Nat} {cA : Nat → ClassId} {μ μ' : am_M} {k : Nat} {c c' : am_C} (h : μ.1[k]? = some c) (h1 : ∀ i, i ≠ k → μ'.1[i]? = μ.1[i]?) (h2 : ∀ i, i ≠ k → μ'.2.2 i = μ.2.2 i) (h3 : μ'.1[k]? = some c') : am_ws ft ad cA μ' = (am_ws ft ad cA μ).set k (ad k, am_cell ft ad cA (μ'.2.2 k) c') := by
  apply List.ext_getElem?
  intro i
  have hk : k < (am_ws ft ad cA μ).length := by rw [am_ws_len]; exact (List.getElem?_eq_some_iff.mp h).1
  by_cases e : i = k
  · subst e
    rw [List.getElem?_set_self hk, am_ws_get h3]
  · rw [List.getElem?_set_ne (Ne.symm e)]
    unfold am_ws
    rw [List.getElem?_mapIdx, List.getElem?_mapIdx, h1 i e, h2 i e]
def am_ext (n : Nat) (ad ad' : Nat → Nat) : Prop := ∀ k, (k < n ∨ 1000 ≤ k) → ad' k = ad k
theorem am_ext.rf {n : Nat} {ad : Nat → Nat} : am_ext n ad ad := fun _ _ => rfl
theorem am_ext.tr {n m : Nat} {a b c : Nat → Nat} (h : am_ext n a b) (k : am_ext m b c) (hn : n ≤ m) : am_ext n a c := fun i hi => (k i (hi.elim (fun z => Or.inl (Nat.lt_of_lt_of_le z hn)) Or.inr)).trans (h i hi)
theorem am_rv_ext {n : Nat} {ad ad' : Nat → Nat} (h : am_ext n ad ad') {v : am_V} (hv : am_okV n v) : am_rv ad' v = am_rv ad v := by
  match v, hv with
  | .inl _, _ => rfl
  | .inr (.inl _), _ => rfl
  | .inr (.inr k), hv => exact congrArg Value.ref (h k hv)
theorem am_rvs_ext {n : Nat} {ad ad' : Nat → Nat} (h : am_ext n ad ad') {S : List am_V} (hv : ∀ v ∈ S, am_okV n v) : S.map (am_rv ad') = S.map (am_rv ad) := List.map_congr_left (fun v hm => am_rv_ext h (hv v hm))
theorem am_fv_ext {ft : List (List Nat)} {n : Nat} {ad ad' : Nat → Nat} (h : am_ext n ad ad') {f : Nat → Int} {ci : Nat} {rs : List Nat} (hr : ∀ j r : Nat, rs[j]? = some (r + 1) → (r < n ∨ 1000 ≤ r)) (j : Nat) : am_fv ft ad' f ci rs j = am_fv ft ad f ci rs j := by
  unfold am_fv
  split
  · rfl
  · rfl
  · rfl
  · rfl
  · split
    next r hr' => exact congrArg Value.ref (h r (hr j r hr'))
    next => rfl
theorem am_cell_ext {ft : List (List Nat)} {n : Nat} {ad ad' : Nat → Nat} {cA : Nat → ClassId} (h : am_ext n ad ad') {f : Nat → Int} {c : am_C} (hr : ∀ j r : Nat, c.2.2[j]? = some (r + 1) → (r < n ∨ 1000 ≤ r)) : am_cell ft ad' cA f c = am_cell ft ad cA f c := by
  unfold am_cell
  split
  · rfl
  · split
    · rfl
    · congr 2
      apply List.map_congr_left
      intro j _
      exact am_fv_ext h hr j
/-- the same cells, seen with more addresses -/
theorem am_ws_ext {ft : List (List Nat)} {n : Nat} {ad ad' : Nat → Nat} {cA : Nat → ClassId} {μ : am_M} (I : am_R ft μ) (hn : n = μ.1.length) (h : am_ext n ad ad') : am_ws ft ad' cA μ = am_ws ft ad cA μ := by
  subst hn
  apply List.ext_getElem?
  intro i
  cases hc : μ.1[i]? with
  | none =>
    unfold am_ws
    rw [List.getElem?_mapIdx, List.getElem?_mapIdx, hc]
    rfl
  | some c =>
    rw [am_ws_get hc, am_ws_get hc, h i (Or.inl (List.getElem?_eq_some_iff.mp hc).1), am_cell_ext h (I.2 i c (am_dsc_rw I.1 hc)).2]
theorem am_ws_new {ft : List (List Nat)} {ad : Nat → Nat} {cA : Nat → ClassId} {μ : am_M} (I : am_R ft μ) (hl : μ.1.length < 1000) (c : am_C) (q : Nat) : am_ws ft (fun i => if i = μ.1.length then q else ad i) cA (μ.1 ++ [c], μ.2.1, am_row μ.2.2 μ.1.length (fun _ => 0)) = am_ws ft ad cA μ ++ [(q, am_cell ft (fun i => if i = μ.1.length then q else ad i) cA (fun _ => 0) c)] := by
  have hx : am_ext μ.1.length ad (fun i => if i = μ.1.length then q else ad i) := fun i hi => if_neg (by omega)
  apply List.ext_getElem?
  intro i
  by_cases hi : i < μ.1.length
  · have h1 : i < (am_ws ft ad cA μ).length := by rw [am_ws_len]; exact hi
    rw [List.getElem?_append_left h1]
    have hc : μ.1[i]? = some μ.1[i] := List.getElem?_eq_getElem hi
    have hc2 : (μ.1 ++ [c])[i]? = some μ.1[i] := by rw [List.getElem?_append_left hi]; exact hc
    rw [am_ws_get hc, am_ws_get (μ := (μ.1 ++ [c], μ.2.1, am_row μ.2.2 μ.1.length (fun _ => 0))) hc2]
    show some ((if i = μ.1.length then q else ad i), am_cell ft _ cA (am_row μ.2.2 μ.1.length (fun _ => 0) i) μ.1[i]) = _
    rw [if_neg (by omega), am_row_ne (by omega), am_cell_ext hx (I.2 i _ (am_dsc_rw I.1 hc)).2]
  · rw [List.getElem?_append_right (by rw [am_ws_len]; omega), am_ws_len]
    by_cases e : i = μ.1.length
    · subst e
      have hc2 : (μ.1 ++ [c])[μ.1.length]? = some c := by simp
      rw [am_ws_get (μ := (μ.1 ++ [c], μ.2.1, am_row μ.2.2 μ.1.length (fun _ => 0))) hc2, Nat.sub_self]
      show some ((if μ.1.length = μ.1.length then q else ad μ.1.length), am_cell ft _ cA (am_row μ.2.2 μ.1.length (fun _ => 0) μ.1.length) c) = _
      rw [if_pos rfl, am_row_eq]
      rfl
    · have h1 : (am_ws ft (fun i => if i = μ.1.length then q else ad i) cA (μ.1 ++ [c], μ.2.1, am_row μ.2.2 μ.1.length (fun _ => 0)))[i]? = none := by
        apply List.getElem?_eq_none
        rw [am_ws_len]
        simp
        omega
      rw [h1]
      symm
      apply List.getElem?_eq_none
      simp
      omega
/-! locals -/
def am_prs (ad : Nat → Nat) (L : am_L) : List (Nat × Value) := (List.range L.length).filterMap (fun i => match L[i]? with
  | some (some v) => some (i, am_rv ad v)
  | _ => none)
theorem am_prs_mem {ad : Nat → Nat} {L : am_L} {q : Nat × Value} : q ∈ am_prs ad L ↔ ∃ v, L[q.1]? = some (some v) ∧ q.2 = am_rv ad v := by
  unfold am_prs
  rw [List.mem_filterMap]
  constructor
  · rintro ⟨i, hi, h⟩
    split at h
    next v hv =>
      cases h
      exact ⟨v, hv, rfl⟩
    next => cases h
  · rintro ⟨v, h1, h2⟩
    refine ⟨q.1, List.mem_range.mpr (List.getElem?_eq_some_iff.mp h1).1, ?_⟩
    rw [h1]
    show some (q.1, am_rv ad v) = some q
    rw [← h2]
def am_lv (ad : Nat → Nat) (ls : Array Slot) (nL : Nat) (L : am_L) : Prop := lv_has ls nL (am_prs ad L) ∧ L.length = nL
theorem am_lv.get {ad : Nat → Nat} {ls : Array Slot} {nL : Nat} {L : am_L} (h : am_lv ad ls nL L) {a : Nat} {v : am_V} (hv : L[a]? = some (some v)) : ls[a]? = some (.val (am_rv ad v)) := h.1.2.2 (a, am_rv ad v) (am_prs_mem.mpr ⟨v, hv, rfl⟩)
theorem am_kill_len {ks : List Nat} : ∀ {L : am_L}, (am_kill ks L).length = L.length := by
  induction ks with
  | nil => intro L; rfl
  | cons k ks ih => intro L; exact (ih (L := L.set k none)).trans List.length_set
theorem am_set_get {L : am_L} {a i : Nat} {x : Option am_V} {v : am_V} (h : (L.set a x)[i]? = some (some v)) : (i = a ∧ x = some v) ∨ (i ≠ a ∧ L[i]? = some (some v)) := by
  by_cases e : i = a
  · subst e
    have hi : i < L.length := by rw [← List.length_set (as := L) (i := i) (a := x)]; exact (List.getElem?_eq_some_iff.mp h).1
    rw [List.getElem?_set_self hi] at h
    exact Or.inl ⟨rfl, Option.some.inj h⟩
  · rw [List.getElem?_set_ne (Ne.symm e)] at h
    exact Or.inr ⟨e, h⟩
theorem am_kill_get {ks : List Nat} {i : Nat} {v : am_V} : ∀ {L : am_L}, (am_kill ks L)[i]? = some (some v) → L[i]? = some (some v) := by
  induction ks with
  | nil => intro L h; exact h
  | cons k ks ih =>
    intro L h
    rcases am_set_get (ih (L := L.set k none) h) with ⟨-, z⟩ | ⟨-, z⟩
    · cases z
    · exact z
theorem am_lv.kill {ad : Nat → Nat} {ls : Array Slot} {nL : Nat} {L : am_L} (h : am_lv ad ls nL L) (ks : List Nat) : am_lv ad ls nL (am_kill ks L) := by
  refine ⟨⟨h.1.1, h.1.2.1, fun q hq => ?_⟩, am_kill_len.trans h.2⟩
  obtain ⟨v, h1, h2⟩ := am_prs_mem.mp hq
  exact h.1.2.2 q (am_prs_mem.mpr ⟨v, am_kill_get h1, h2⟩)
theorem am_lv.ext {n : Nat} {ad ad' : Nat → Nat} (hx : am_ext n ad ad') {ls : Array Slot} {nL : Nat} {L : am_L} (h : am_lv ad ls nL L) (hv : ∀ v, some v ∈ L → am_okV n v) : am_lv ad' ls nL L := by
  refine ⟨⟨h.1.1, h.1.2.1, fun q hq => ?_⟩, h.2⟩
  obtain ⟨v, h1, h2⟩ := am_prs_mem.mp hq
  exact h.1.2.2 q (am_prs_mem.mpr ⟨v, h1, by rw [h2]; exact am_rv_ext hx (hv v (List.mem_of_getElem? h1))⟩)
theorem am_st_len {L : am_L} {a : Nat} {v : am_V} : (am_st L a v).length = L.length := by
  unfold am_st
  match a with
  | 0 =>
    dsimp only
    split <;> simp
  | k + 1 =>
    dsimp only
    split <;> split <;> simp
theorem am_st_get {L : am_L} {a i : Nat} {v u : am_V} (h : (am_st L a v)[i]? = some (some u)) : (i = a ∧ u = v) ∨ (i ≠ a ∧ L[i]? = some (some u) ∧ ¬ (i + 1 = a ∧ am_tag u = 1) ∧ (am_tag v = 1 → i ≠ a + 1)) := by
  have key : ∀ L1 : am_L, (∀ w, i ≠ a → L1[i]? = some (some w) → L[i]? = some (some w) ∧ ¬ (i + 1 = a ∧ am_tag w = 1)) → (if am_tag v = 1 then (L1.set a (some v)).set (a + 1) none else L1.set a (some v))[i]? = some (some u) → (i = a ∧ u = v) ∨ (i ≠ a ∧ L[i]? = some (some u) ∧ ¬ (i + 1 = a ∧ am_tag u = 1) ∧ (am_tag v = 1 → i ≠ a + 1)) := by
    intro L1 h1 h2
    by_cases ht : am_tag v = 1
    · rw [if_pos ht] at h2
      rcases am_set_get h2 with ⟨-, z⟩ | ⟨z0, z⟩
      · cases z
      · rcases am_set_get z with ⟨y0, y⟩ | ⟨y0, y⟩
        · exact Or.inl ⟨y0, (Option.some.inj y).symm⟩
        · exact Or.inr ⟨y0, (h1 u y0 y).1, (h1 u y0 y).2, fun _ => z0⟩
    · rw [if_neg ht] at h2
      rcases am_set_get h2 with ⟨y0, y⟩ | ⟨y0, y⟩
      · exact Or.inl ⟨y0, (Option.some.inj y).symm⟩
      · exact Or.inr ⟨y0, (h1 u y0 y).1, (h1 u y0 y).2, fun z => absurd z ht⟩
  unfold am_st at h
  match a, h, key with
  | 0, h, key => exact key L (fun w _ z => ⟨z, fun q => by omega⟩) h
  | k + 1, h, key =>
    refine key (if am_isJ L[k]? = true then L.set k none else L) (fun w hw z => ?_) h
    by_cases hj : am_isJ L[k]? = true
    · rw [if_pos hj] at z
      rcases am_set_get z with ⟨-, y⟩ | ⟨y0, y⟩
      · cases y
      · exact ⟨y, fun q => y0 (by omega)⟩
    · rw [if_neg hj] at z
      refine ⟨z, fun q => ?_⟩
      have e : i = k := by omega
      subst e
      rw [z] at hj
      match w, q.2 with
      | .inr (.inl x), _ => exact hj rfl
theorem am_cat_rv (ad : Nat → Nat) (v : am_V) : (am_rv ad v).category = am_cat v := by
  match v with
  | .inl _ => rfl
  | .inr (.inl _) => rfl
  | .inr (.inr _) => rfl
theorem am_tag_cat {v : am_V} : (am_rv (fun k => k) v).category = 2 ↔ am_tag v = 1 := by
  match v with
  | .inl _ => simp [am_rv, am_tag, Value.category]
  | .inr (.inl _) => simp [am_rv, am_tag, Value.category]
  | .inr (.inr _) => simp [am_rv, am_tag, Value.category]
theorem am_cat2 {ad : Nat → Nat} {v : am_V} : (am_rv ad v).category = 2 ↔ am_tag v = 1 := by
  match v with
  | .inl _ => simp [am_rv, am_tag, Value.category]
  | .inr (.inl _) => simp [am_rv, am_tag, Value.category]
  | .inr (.inr _) => simp [am_rv, am_tag, Value.category]
theorem am_lv.st1 {ad : Nat → Nat} {ls ls' : Array Slot} {nL : Nat} {L : am_L} (h : am_lv ad ls nL L) {a : Nat} {v : am_V} (hv : ¬ am_tag v = 1) (h' : lv_has ls' nL ((a, am_rv ad v) :: (am_prs ad L).filter (fun q => !(q.1 == a) && !(q.1 + 1 == a && q.2.category == 2)))) : am_lv ad ls' nL (am_st L a v) := by
  refine ⟨⟨h'.1, h'.2.1, fun q hq => h'.2.2 q ?_⟩, am_st_len.trans h.2⟩
  obtain ⟨u, h1, h2⟩ := am_prs_mem.mp hq
  rcases am_st_get h1 with ⟨e1, e2⟩ | ⟨e1, e2, e3, -⟩
  · exact List.mem_cons.mpr (Or.inl (by rw [← e1, ← e2, ← h2]))
  · refine List.mem_cons_of_mem _ (List.mem_filter.mpr ⟨am_prs_mem.mpr ⟨u, e2, h2⟩, ?_⟩)
    have e4 : ¬ (q.1 + 1 = a ∧ q.2.category = 2) := fun z => e3 ⟨z.1, by rw [h2] at z; exact am_cat2.mp z.2⟩
    simp only [Bool.and_eq_true, Bool.not_eq_true', beq_eq_false_iff_ne, ne_eq, Bool.and_eq_false_iff]
    refine ⟨e1, ?_⟩
    by_cases z : q.1 + 1 = a
    · exact Or.inr (fun y => e4 ⟨z, y⟩)
    · exact Or.inl z
theorem am_lv.st2 {ad : Nat → Nat} {ls ls' : Array Slot} {nL : Nat} {L : am_L} (h : am_lv ad ls nL L) {a : Nat} {v : am_V} (hv : am_tag v = 1) (h' : lv_has ls' nL ((a, am_rv ad v) :: (am_prs ad L).filter (fun q => !(q.1 == a) && (!(q.1 == a + 1) && !(q.1 + 1 == a && q.2.category == 2))))) : am_lv ad ls' nL (am_st L a v) := by
  refine ⟨⟨h'.1, h'.2.1, fun q hq => h'.2.2 q ?_⟩, am_st_len.trans h.2⟩
  obtain ⟨u, h1, h2⟩ := am_prs_mem.mp hq
  rcases am_st_get h1 with ⟨e1, e2⟩ | ⟨e1, e2, e3, e5⟩
  · exact List.mem_cons.mpr (Or.inl (by rw [← e1, ← e2, ← h2]))
  · refine List.mem_cons_of_mem _ (List.mem_filter.mpr ⟨am_prs_mem.mpr ⟨u, e2, h2⟩, ?_⟩)
    have e4 : ¬ (q.1 + 1 = a ∧ q.2.category = 2) := fun z => e3 ⟨z.1, by rw [h2] at z; exact am_cat2.mp z.2⟩
    simp only [Bool.and_eq_true, Bool.not_eq_true', beq_eq_false_iff_ne, ne_eq, Bool.and_eq_false_iff]
    refine ⟨e1, e5 hv, ?_⟩
    by_cases z : q.1 + 1 = a
    · exact Or.inr (fun y => e4 ⟨z, y⟩)
    · exact Or.inl z
theorem am_ent_args {ad : Nat → Nat} : ∀ (vs : List am_V) (pre : am_L) (rest : am_L) (q : Nat × Value), (∃ v, (am_ent0 vs ++ rest)[q.1]? = some (some v) ∧ q.2 = am_rv ad v ∧ q.1 < (am_ent0 vs).length) → (pre.length + q.1, q.2) ∈ lv_args pre.length (vs.map (am_rv ad))
  | [], pre, rest, q, ⟨v, h1, h2, h3⟩ => absurd h3 (Nat.not_lt_zero _)
  | u :: vs, pre, rest, q, ⟨v, h1, h2, h3⟩ => by
    by_cases ht : am_tag u = 1
    · have e0 : am_ent0 (u :: vs) = some u :: none :: am_ent0 vs := by simp [am_ent0, ht]
      rw [e0] at h1 h3
      show _ ∈ (pre.length, am_rv ad u) :: lv_args (if (am_rv ad u).category = 2 then pre.length + 2 else pre.length + 1) (vs.map (am_rv ad))
      rw [if_pos (am_cat2.mpr ht)]
      obtain ⟨i, w⟩ := q
      match i, h1, h3 with
      | 0, h1, _ =>
        simp at h1
        subst h1
        exact List.mem_cons.mpr (Or.inl (by rw [← h2]; rfl))
      | 1, h1, _ => simp at h1
      | i + 2, h1, h3 =>
        refine List.mem_cons_of_mem _ ?_
        have := am_ent_args vs (pre ++ [none, none]) rest (i, w) ⟨v, by simpa using h1, h2, by simpa using h3⟩
        simp only [List.length_append, List.length_cons, List.length_nil] at this
        have e : pre.length + (i + 2) = pre.length + (0 + 1 + 1) + i := by omega
        show (pre.length + (i + 2), w) ∈ _
        rw [e]
        exact this
    · have e0 : am_ent0 (u :: vs) = some u :: am_ent0 vs := by simp [am_ent0, ht]
      rw [e0] at h1 h3
      show _ ∈ (pre.length, am_rv ad u) :: lv_args (if (am_rv ad u).category = 2 then pre.length + 2 else pre.length + 1) (vs.map (am_rv ad))
      rw [if_neg (fun z => ht (am_cat2.mp z))]
      obtain ⟨i, w⟩ := q
      match i, h1, h3 with
      | 0, h1, _ =>
        simp at h1
        subst h1
        exact List.mem_cons.mpr (Or.inl (by rw [← h2]; rfl))
      | i + 1, h1, h3 =>
        refine List.mem_cons_of_mem _ ?_
        have := am_ent_args vs (pre ++ [none]) rest (i, w) ⟨v, by simpa using h1, h2, by simpa using h3⟩
        simp only [List.length_append, List.length_cons, List.length_nil] at this
        have e : pre.length + (i + 1) = pre.length + (0 + 1) + i := by omega
        show (pre.length + (i + 1), w) ∈ _
        rw [e]
        exact this
theorem am_ent_len {N : Nat} {vs : List am_V} (h : (am_ent0 vs).length ≤ N) : (am_ent N vs).length = N := by
  unfold am_ent
  simp
  omega
theorem am_sl_lg {ad : Nat → Nat} : ∀ (vs : List am_V), (lg_sl (vs.map (am_rv ad))).length = (am_ent0 vs).length
  | [] => rfl
  | u :: vs => by
    have ih := am_sl_lg (ad := ad) vs
    by_cases ht : am_tag u = 1
    · have hc : (am_rv ad u).category = 2 := am_cat2.mpr ht
      simp only [lg_sl, List.map_cons, List.flatMap_cons, am_ent0, ht, hc, if_true, List.length_append, List.length_cons, List.length_nil] at ih ⊢
      omega
    · have hc : ¬ (am_rv ad u).category = 2 := fun z => ht (am_cat2.mp z)
      simp only [lg_sl, List.map_cons, List.flatMap_cons, am_ent0, ht, hc, if_false, List.length_append, List.length_cons, List.length_nil] at ih ⊢
      omega
/-- the locals with which a method begins -/
theorem am_lv_entry {ad : Nat → Nat} {N : Nat} {vs : List am_V} (h : (am_ent0 vs).length ≤ N) : am_lv ad ((lg_sl (vs.map (am_rv ad)) ++ List.replicate (N - (lg_sl (vs.map (am_rv ad))).length) Slot.unset).toArray) N (am_ent N vs) := by
  have hl := lv_entry (vs.map (am_rv ad)) (n := N) (by rw [am_sl_lg]; exact h)
  refine ⟨⟨hl.1, hl.2.1, fun q hq => hl.2.2 q ?_⟩, am_ent_len h⟩
  obtain ⟨v, h1, h2⟩ := am_prs_mem.mp hq
  have h3 : q.1 < (am_ent0 vs).length := by
    rcases Nat.lt_or_ge q.1 (am_ent0 vs).length with z | z
    · exact z
    · unfold am_ent at h1
      rw [List.getElem?_append_right z] at h1
      cases List.eq_of_mem_replicate (List.mem_of_getElem? h1)
  have := am_ent_args vs [] (List.replicate (N - (am_ent0 vs).length) none) q ⟨v, h1, h2, h3⟩
  simpa using this
end
section
/-! one instruction of the abstract machine is one of the machine: what doesn't touch cells -/
def am_ftOk (t : Nat) (ty : FieldType) (fin : Bool) : Prop := (t = 0 ∧ ty = .int ∧ fin = false) ∨ (t = 2 ∧ ty = .boolean ∧ fin = false) ∨ (t = 3 ∧ ty = .long ∧ fin = false) ∨ (t = 4 ∧ fin = true ∧ ((∃ n, ty = .object n) ∨ ∃ u, ty = .array u))
def am_clOk (ft : List (List Nat)) (T : List Cond) (cl : List vw_C) : Prop := ∀ (ci : Nat) (C : String) (Tt : u_T) (N : Nat), cl[ci]? = some (C, Tt, N) → (∀ w ∈ u_ws C Tt N, w ∈ T) ∧ (∀ j, j < N → (Tt j).1 = C ∧ ∃ ty, parseFieldDescriptor (Tt j).2.2.1 = some ty ∧ am_ftOk (am_ft ft ci j) ty (Tt j).2.2.2) ∧ (∀ a, a < N → ∀ b, b < N → a ≠ b → (Tt a).2.1 ≠ (Tt b).2.1) ∧ Cond.instantiable C N ∈ T ∧ Cond.initialized C ∈ T
def am_X (T : List Cond) (cl : List vw_C) (D : va_G) (cA : Nat → ClassId) (A : Nat → Prop) (p : Program) (s : State) (m : MethodId) (args : Array Value) (c : Code) (cc : ByteArray) (nL : Nat) (own : String) : Prop :=
  p.tables.exec = Jvm.exec ∧ c.code = cc ∧ c.maxLocals = nL ∧ s.vm.findClass own = some m.cls ∧ (∀ w ∈ T, w.before args s = true) ∧ va_K D cl (am_tys cA) s ∧ ∀ q, s.heap.size ≤ q → A q
def am_Kk (ft : List (List Nat)) (p : Program) (l : Launch) (e : Env) (R : Room) (s : State) (m : MethodId) (args : Array Value) (below : List Frame) (meth : Method) (c : Code) (D : va_G) (cl : List vw_C) (cA : Nat → ClassId) (A : Nat → Prop) (nL : Nat) (ad : Nat → Nat) (μ : am_M) (cells slots : Nat) (Q : State → Prop) (pc' : Nat) (L' : am_L) (S' : List am_V) (μ' : am_M) : Prop :=
  ∀ (ad' : Nat → Nat) (H' : Heap) (locs' : List Loc) (ls' : Array Slot), am_ext μ.1.length ad ad' → am_lv ad' ls' nL L' → va_P D cl (am_ws ft ad' cA μ') H' → va_D A (am_ws ft ad' cA μ') → va_S A s.heap H' locs' → W p l e R s m args below meth c H' locs' (cells + (μ'.1.length - μ.1.length)) (slots + (am_sl μ' - am_sl μ)) Q (F0 m pc' ls' (S'.map (am_rv ad')))
section WST
variable {ft : List (List Nat)} {p : Program} {l : Launch} {e : Env} {R : Room} {s : State} {m : MethodId} {args : Array Value} {below : List Frame} {meth : Method} {c : Code} {D : va_G} {cl : List vw_C} {cA : Nat → ClassId} {A : Nat → Prop} {nL : Nat} {ad : Nat → Nat} {μ μ' : am_M} {cells slots : Nat} {Q : State → Prop} {pc pc' len a b : Nat} {L L' : am_L} {S S' : List am_V} {T : List Cond} {tk : Nat → Option Cond} {cc : ByteArray} {own : String} {H : Heap} {locs : List Loc} {ls : Array Slot} {i : Instr}
theorem am_Kk.same (kk : am_Kk ft p l e R s m args below meth c D cl cA A nL ad μ cells slots Q pc' L' S' μ) (hl : am_lv ad ls nL L') (hP : va_P D cl (am_ws ft ad cA μ) H) (hD : va_D A (am_ws ft ad cA μ)) (hS : va_S A s.heap H locs) : W p l e R s m args below meth c H locs cells slots Q (F0 m pc' ls (S'.map (am_rv ad))) := by
  have h := kk ad H locs ls am_ext.rf hl hP hD hS
  simpa only [Nat.sub_self, Nat.add_zero] using h
def am_ok0 (t a : Nat) (i : Instr) (len : Nat) : Bool := match t, i with
  | 0, .iload k => decide (k = a) && decide (len = 2)
  | 0, .iload_n k => decide ((k : Nat) = a) && decide (len = 1)
  | 1, .lload k => decide (k = a) && decide (len = 2)
  | 1, .lload_n k => decide ((k : Nat) = a) && decide (len = 1)
  | 2, .aload k => decide (k = a) && decide (len = 2)
  | 2, .aload_n k => decide ((k : Nat) = a) && decide (len = 1)
  | _, _ => false
theorem am_w_load {t : Nat} (X : am_X T cl D cA A p s m args c cc nL own) (hd : decode cc pc = .ok (i, len)) (ho : am_ok0 t a i len = true) (h : am_sload t a (pc + len) L S μ = some (pc', L', S', μ')) (hl : am_lv ad ls nL L) (hP : va_P D cl (am_ws ft ad cA μ) H) (hD : va_D A (am_ws ft ad cA μ)) (hS : va_S A s.heap H locs) (kk : am_Kk ft p l e R s m args below meth c D cl cA A nL ad μ cells slots Q pc' L' S' μ') : W p l e R s m args below meth c H locs cells slots Q (F0 m pc ls (S.map (am_rv ad))) := by
  obtain ⟨hx, hb, -⟩ := X
  unfold am_sload at h
  split at h
  next v hv =>
    split at h
    next htag =>
      simp only [Option.some.injEq, Prod.mk.injEq] at h
      obtain ⟨rfl, rfl, rfl, rfl⟩ := h
      have hg := hl.get hv
      have K := kk.same hl hP hD hS
      unfold am_ok0 at ho
      split at ho
      all_goals try simp only [Bool.and_eq_true, decide_eq_true_eq, Bool.false_eq_true] at ho
      · obtain ⟨rfl, rfl⟩ := ho
        match v, htag, hg, K with
        | .inl x, _, hg, K => exact lv_iload hx hb hd hg K
        | .inr (.inl _), z, _, _ => cases z
        | .inr (.inr _), z, _, _ => cases z
      · obtain ⟨h1, rfl⟩ := ho
        match v, htag, hg, K with
        | .inl x, _, hg, K => exact lv_iload_n hx hb hd h1 hg K
        | .inr (.inl _), z, _, _ => cases z
        | .inr (.inr _), z, _, _ => cases z
      · obtain ⟨rfl, rfl⟩ := ho
        match v, htag, hg, K with
        | .inr (.inl x), _, hg, K => exact lv_lload hx hb hd hg K
        | .inl _, z, _, _ => cases z
        | .inr (.inr _), z, _, _ => cases z
      · obtain ⟨h1, rfl⟩ := ho
        match v, htag, hg, K with
        | .inr (.inl x), _, hg, K => exact lv_lload_n hx hb hd h1 hg K
        | .inl _, z, _, _ => cases z
        | .inr (.inr _), z, _, _ => cases z
      · obtain ⟨rfl, rfl⟩ := ho
        match v, htag, hg, K with
        | .inr (.inr x), _, hg, K => exact lv_aload hx hb hd hg K
        | .inl _, z, _, _ => cases z
        | .inr (.inl _), z, _, _ => cases z
      · obtain ⟨h1, rfl⟩ := ho
        match v, htag, hg, K with
        | .inr (.inr x), _, hg, K => exact lv_aload_n hx hb hd h1 hg K
        | .inl _, z, _, _ => cases z
        | .inr (.inl _), z, _, _ => cases z
    next => cases h
  next => cases h
def am_ok3 (t a : Nat) (i : Instr) (len : Nat) : Bool := match t, i with
  | 0, .istore k => decide (k = a) && decide (len = 2)
  | 0, .istore_n k => decide ((k : Nat) = a) && decide (len = 1)
  | 1, .lstore k => decide (k = a) && decide (len = 2)
  | 1, .lstore_n k => decide ((k : Nat) = a) && decide (len = 1)
  | 2, .astore k => decide (k = a) && decide (len = 2)
  | 2, .astore_n k => decide ((k : Nat) = a) && decide (len = 1)
  | _, _ => false
theorem am_w_store {t : Nat} (X : am_X T cl D cA A p s m args c cc nL own) (hd : decode cc pc = .ok (i, len)) (ho : am_ok3 t a i len = true) (h : am_sstore t a (pc + len) L S μ = some (pc', L', S', μ')) (hl : am_lv ad ls nL L) (hP : va_P D cl (am_ws ft ad cA μ) H) (hD : va_D A (am_ws ft ad cA μ)) (hS : va_S A s.heap H locs) (kk : am_Kk ft p l e R s m args below meth c D cl cA A nL ad μ cells slots Q pc' L' S' μ') : W p l e R s m args below meth c H locs cells slots Q (F0 m pc ls (S.map (am_rv ad))) := by
  obtain ⟨hx, hb, -⟩ := X
  unfold am_sstore at h
  split at h
  next v S1 =>
    split at h
    next hc =>
      obtain ⟨htag, hlen⟩ := hc
      simp only [Option.some.injEq, Prod.mk.injEq] at h
      obtain ⟨rfl, rfl, rfl, rfl⟩ := h
      rw [hl.2] at hlen
      unfold am_ok3 at ho
      split at ho
      all_goals try simp only [Bool.and_eq_true, decide_eq_true_eq, Bool.false_eq_true] at ho
      · obtain ⟨rfl, rfl⟩ := ho
        match v, htag, hlen, kk with
        | .inl x, _, hlen, kk => exact lv_istore hx hb hd hl.1 hlen rfl (fun ls' h' => kk.same (hl.st1 (v := vI x) (by show ¬ 0 = 1; omega) h') hP hD hS)
        | .inr (.inl _), z, _, _ => cases z
        | .inr (.inr _), z, _, _ => cases z
      · obtain ⟨h1, rfl⟩ := ho
        match v, htag, hlen, kk with
        | .inl x, _, hlen, kk => exact lv_istore_n hx hb hd h1 hl.1 hlen rfl (fun ls' h' => kk.same (hl.st1 (v := vI x) (by show ¬ 0 = 1; omega) h') hP hD hS)
        | .inr (.inl _), z, _, _ => cases z
        | .inr (.inr _), z, _, _ => cases z
      · obtain ⟨rfl, rfl⟩ := ho
        match v, htag, hlen, kk with
        | .inr (.inl x), _, hlen, kk => exact lv_lstore hx hb hd hl.1 hlen rfl (fun ls' h' => kk.same (hl.st2 (v := vJ x) rfl h') hP hD hS)
        | .inl _, z, _, _ => cases z
        | .inr (.inr _), z, _, _ => cases z
      · obtain ⟨h1, rfl⟩ := ho
        match v, htag, hlen, kk with
        | .inr (.inl x), _, hlen, kk => exact lv_lstore_n hx hb hd h1 hl.1 hlen rfl (fun ls' h' => kk.same (hl.st2 (v := vJ x) rfl h') hP hD hS)
        | .inl _, z, _, _ => cases z
        | .inr (.inr _), z, _, _ => cases z
      · obtain ⟨rfl, rfl⟩ := ho
        match v, htag, hlen, kk with
        | .inr (.inr x), _, hlen, kk => exact lv_astore hx hb hd hl.1 hlen rfl (fun ls' h' => kk.same (hl.st1 (v := vP x) (by show ¬ 2 = 1; omega) h') hP hD hS)
        | .inl _, z, _, _ => cases z
        | .inr (.inl _), z, _, _ => cases z
      · obtain ⟨h1, rfl⟩ := ho
        match v, htag, hlen, kk with
        | .inr (.inr x), _, hlen, kk => exact lv_astore_n hx hb hd h1 hl.1 hlen rfl (fun ls' h' => kk.same (hl.st1 (v := vP x) (by show ¬ 2 = 1; omega) h') hP hD hS)
        | .inl _, z, _, _ => cases z
        | .inr (.inl _), z, _, _ => cases z
    next => cases h
  next => cases h
def am_ok6 (tk : Nat → Option Cond) (own : String) (d : Nat) (c : Int) (i : Instr) (len : Nat) : Bool := match i with
  | .iconst n => decide (n = c) && decide (len = 1)
  | .bipush n => decide ((Int8.ofInt n).toInt32 = Int32.ofInt c) && decide (len = 2)
  | .sipush n => decide ((Int16.ofInt n).toInt32 = Int32.ofInt c) && decide (len = 3)
  | .ldc k => decide (tk d = some (.constant own k (Int32.ofInt c))) && decide (len = 2)
  | .ldc_w k => decide (tk d = some (.constant own k (Int32.ofInt c))) && decide (len = 3)
  | _ => false
theorem am_w_iconst {d : Nat} {z : Int} (htk : ∀ (d : Nat) (w : Cond), tk d = some w → w ∈ T) (X : am_X T cl D cA A p s m args c cc nL own) (hd : decode cc pc = .ok (i, len)) (ho : am_ok6 tk own d z i len = true) (K : W p l e R s m args below meth c H locs cells slots Q (F0 m (pc + len) ls (.int (Int32.ofInt z) :: S.map (am_rv ad)))) : W p l e R s m args below meth c H locs cells slots Q (F0 m pc ls (S.map (am_rv ad))) := by
  obtain ⟨hx, hb, -, hown, hts, -⟩ := X
  unfold am_ok6 at ho
  split at ho
  all_goals try simp only [Bool.and_eq_true, decide_eq_true_eq, Bool.false_eq_true] at ho
  · obtain ⟨rfl, rfl⟩ := ho
    exact lv_iconst hx hb hd rfl K
  · obtain ⟨h1, rfl⟩ := ho
    exact lv_bipush hx hb hd h1 K
  · obtain ⟨h1, rfl⟩ := ho
    exact lv_sipush hx hb hd h1 K
  · obtain ⟨h1, rfl⟩ := ho
    exact lv_ldc hx hb hown (hts _ (htk _ _ h1)) hd K
  · obtain ⟨h1, rfl⟩ := ho
    exact lv_ldcw hx hb hown (hts _ (htk _ _ h1)) hd K
def am_ok7 (tk : Nat → Option Cond) (own : String) (d : Nat) (c : Int) (i : Instr) (len : Nat) : Bool := match i with
  | .lconst n => decide (Int64.ofNat (n : Nat) = Int64.ofInt c) && decide (len = 1)
  | .ldc2_w k => decide (tk d = some (.constantLong own k (Int64.ofInt c))) && decide (len = 3)
  | _ => false
theorem am_w_lconst {d : Nat} {z : Int} (htk : ∀ (d : Nat) (w : Cond), tk d = some w → w ∈ T) (X : am_X T cl D cA A p s m args c cc nL own) (hd : decode cc pc = .ok (i, len)) (ho : am_ok7 tk own d z i len = true) (K : W p l e R s m args below meth c H locs cells slots Q (F0 m (pc + len) ls (.long (Int64.ofInt z) :: S.map (am_rv ad)))) : W p l e R s m args below meth c H locs cells slots Q (F0 m pc ls (S.map (am_rv ad))) := by
  obtain ⟨hx, hb, -, hown, hts, -⟩ := X
  unfold am_ok7 at ho
  split at ho
  all_goals try simp only [Bool.and_eq_true, decide_eq_true_eq, Bool.false_eq_true] at ho
  · obtain ⟨h1, rfl⟩ := ho
    exact lv_lconst hx hb hd h1 K
  · obtain ⟨h1, rfl⟩ := ho
    exact lv_ldc2 hx hb hown (hts _ (htk _ _ h1)) hd K
def am_ok8 (a : Nat) (i : Instr) (len : Nat) : Bool := decide (len = 1) && (match a, i with
  | 0, .iadd => true
  | 1, .isub => true
  | 2, .imul => true
  | 3, .iand => true
  | 4, .ior => true
  | 5, .ixor => true
  | 6, .ishl => true
  | 7, .ishr => true
  | 8, .iushr => true
  | _, _ => false)
theorem am_w_bin (X : am_X T cl D cA A p s m args c cc nL own) (hd : decode cc pc = .ok (i, len)) (ho : am_ok8 a i len = true) (h : am_sbin a (pc + len) L S μ = some (pc', L', S', μ')) (hl : am_lv ad ls nL L) (hP : va_P D cl (am_ws ft ad cA μ) H) (hD : va_D A (am_ws ft ad cA μ)) (hS : va_S A s.heap H locs) (kk : am_Kk ft p l e R s m args below meth c D cl cA A nL ad μ cells slots Q pc' L' S' μ') : W p l e R s m args below meth c H locs cells slots Q (F0 m pc ls (S.map (am_rv ad))) := by
  obtain ⟨hx, hb, -⟩ := X
  unfold am_sbin at h
  split at h
  next y x S1 =>
    simp only [Option.some.injEq, Prod.mk.injEq] at h
    obtain ⟨rfl, rfl, rfl, rfl⟩ := h
    have K : W p l e R s m args below meth c H locs cells slots Q (F0 m (pc + len) ls (.int (Int32.ofInt (am_bin a x y)) :: S1.map (am_rv ad))) := kk.same hl hP hD hS
    unfold am_ok8 at ho
    simp only [Bool.and_eq_true, decide_eq_true_eq] at ho
    obtain ⟨rfl, ho⟩ := ho
    split at ho
    · exact lv_iadd hx hb hd (by rw [← am_oadd]; exact K)
    · exact lv_isub hx hb hd (by rw [← am_osub]; exact K)
    · exact lv_imul hx hb hd (by rw [← am_omul]; exact K)
    · exact lv_iand hx hb hd (by rw [← am_ofT (_ &&& _)]; exact K)
    · exact lv_ior hx hb hd (by rw [← am_ofT (_ ||| _)]; exact K)
    · exact lv_ixor hx hb hd (by rw [← am_ofT (_ ^^^ _)]; exact K)
    · exact lv_ishl hx hb hd (by rw [← am_ofT (_ <<< _)]; exact K)
    · exact lv_ishr hx hb hd (by rw [← am_ofT (_ >>> _)]; exact K)
    · exact lv_iushr hx hb hd (am_ofT _).symm K
    · cases ho
  next => cases h
def am_ok9 (a : Nat) (i : Instr) (len : Nat) : Bool := decide (len = 1) && (match a, i with
  | 0, .idiv => true
  | 1, .irem => true
  | _, _ => false)
theorem am_w_div (X : am_X T cl D cA A p s m args c cc nL own) (hd : decode cc pc = .ok (i, len)) (ho : am_ok9 a i len = true) (h : am_sdiv a (pc + len) L S μ = some (pc', L', S', μ')) (I : am_I ft μ L S) (hl : am_lv ad ls nL L) (hP : va_P D cl (am_ws ft ad cA μ) H) (hD : va_D A (am_ws ft ad cA μ)) (hS : va_S A s.heap H locs) (kk : am_Kk ft p l e R s m args below meth c D cl cA A nL ad μ cells slots Q pc' L' S' μ') : W p l e R s m args below meth c H locs cells slots Q (F0 m pc ls (S.map (am_rv ad))) := by
  obtain ⟨hx, hb, -⟩ := X
  unfold am_sdiv at h
  split at h
  next y x S1 =>
    split at h
    next => cases h
    next hy =>
      simp only [Option.some.injEq, Prod.mk.injEq] at h
      obtain ⟨rfl, rfl, rfl, rfl⟩ := h
      have K : W p l e R s m args below meth c H locs cells slots Q (F0 m (pc + len) ls (.int (Int32.ofInt (if a = 0 then am_div x y else am_rem x y)) :: S1.map (am_rv ad))) := kk.same hl hP hD hS
      have ry : -2147483648 ≤ y ∧ y < 2147483648 := I.top
      have rx : -2147483648 ≤ x ∧ x < 2147483648 := I.pop.top
      have hne : ¬ Int32.ofInt y = 0 := fun z => hy ((am_oeq ry (by omega)).mp z)
      unfold am_ok9 at ho
      simp only [Bool.and_eq_true, decide_eq_true_eq] at ho
      obtain ⟨rfl, ho⟩ := ho
      split at ho
      · rw [if_pos rfl] at K
        exact lv_idiv hx hb hd hne (by rw [← am_odiv rx ry]; exact K)
      · rw [if_neg (by omega)] at K
        exact lv_irem hx hb hd hne (by rw [← am_orem rx ry]; exact K)
      · cases ho
  next => cases h
def am_okE (j i : Instr) (len : Nat) : Bool := decide (len = 1) && decide (i = j)
theorem am_w_neg (X : am_X T cl D cA A p s m args c cc nL own) (hd : decode cc pc = .ok (i, len)) (ho : am_okE .ineg i len = true) (h : am_sneg (pc + len) L S μ = some (pc', L', S', μ')) (hl : am_lv ad ls nL L) (hP : va_P D cl (am_ws ft ad cA μ) H) (hD : va_D A (am_ws ft ad cA μ)) (hS : va_S A s.heap H locs) (kk : am_Kk ft p l e R s m args below meth c D cl cA A nL ad μ cells slots Q pc' L' S' μ') : W p l e R s m args below meth c H locs cells slots Q (F0 m pc ls (S.map (am_rv ad))) := by
  obtain ⟨hx, hb, -⟩ := X
  unfold am_okE at ho
  simp only [Bool.and_eq_true, decide_eq_true_eq] at ho
  obtain ⟨rfl, rfl⟩ := ho
  unfold am_sneg at h
  split at h
  next x S1 =>
    simp only [Option.some.injEq, Prod.mk.injEq] at h
    obtain ⟨rfl, rfl, rfl, rfl⟩ := h
    have K : W p l e R s m args below meth c H locs cells slots Q (F0 m (pc + 1) ls (.int (Int32.ofInt (w32 (-x))) :: S1.map (am_rv ad))) := kk.same hl hP hD hS
    exact lv_ineg hx hb hd (by rw [← am_oneg]; exact K)
  next => cases h
def am_ok12 (a : Nat) (i : Instr) (len : Nat) : Bool := decide (len = 1) && (match a, i with
  | 0, .ladd => true
  | 1, .lmul => true
  | _, _ => false)
theorem am_w_lbin (X : am_X T cl D cA A p s m args c cc nL own) (hd : decode cc pc = .ok (i, len)) (ho : am_ok12 a i len = true) (h : am_slbin a (pc + len) L S μ = some (pc', L', S', μ')) (hl : am_lv ad ls nL L) (hP : va_P D cl (am_ws ft ad cA μ) H) (hD : va_D A (am_ws ft ad cA μ)) (hS : va_S A s.heap H locs) (kk : am_Kk ft p l e R s m args below meth c D cl cA A nL ad μ cells slots Q pc' L' S' μ') : W p l e R s m args below meth c H locs cells slots Q (F0 m pc ls (S.map (am_rv ad))) := by
  obtain ⟨hx, hb, -⟩ := X
  unfold am_slbin at h
  split at h
  next y x S1 =>
    simp only [Option.some.injEq, Prod.mk.injEq] at h
    obtain ⟨rfl, rfl, rfl, rfl⟩ := h
    have K : W p l e R s m args below meth c H locs cells slots Q (F0 m (pc + len) ls (.long (Int64.ofInt (am_lbin a x y)) :: S1.map (am_rv ad))) := kk.same hl hP hD hS
    unfold am_ok12 at ho
    simp only [Bool.and_eq_true, decide_eq_true_eq] at ho
    obtain ⟨rfl, ho⟩ := ho
    split at ho
    · exact lv_ladd hx hb hd (by rw [← am_oladd]; exact K)
    · exact lv_lmul hx hb hd (by rw [← am_olmul]; exact K)
    · cases ho
  next => cases h
def am_ok13 (a : Nat) (i : Instr) (len : Nat) : Bool := decide (len = 1) && (match a, i with
  | 0, .i2l => true
  | 1, .l2i => true
  | 2, .i2b => true
  | 3, .i2c => true
  | _, _ => false)
theorem am_w_conv (X : am_X T cl D cA A p s m args c cc nL own) (hd : decode cc pc = .ok (i, len)) (ho : am_ok13 a i len = true) (h : am_sconv a (pc + len) L S μ = some (pc', L', S', μ')) (I : am_I ft μ L S) (hl : am_lv ad ls nL L) (hP : va_P D cl (am_ws ft ad cA μ) H) (hD : va_D A (am_ws ft ad cA μ)) (hS : va_S A s.heap H locs) (kk : am_Kk ft p l e R s m args below meth c D cl cA A nL ad μ cells slots Q pc' L' S' μ') : W p l e R s m args below meth c H locs cells slots Q (F0 m pc ls (S.map (am_rv ad))) := by
  obtain ⟨hx, hb, -⟩ := X
  unfold am_ok13 at ho
  simp only [Bool.and_eq_true, decide_eq_true_eq] at ho
  obtain ⟨rfl, ho⟩ := ho
  unfold am_sconv at h
  split at h
  next x S1 =>
    simp only [Option.some.injEq, Prod.mk.injEq] at h
    obtain ⟨rfl, rfl, rfl, rfl⟩ := h
    have K := kk.same hl hP hD hS
    split at ho
    · exact lv_i2l hx hb hd (am_oi2l I.top) K
    · rename_i z; cases z
    · rename_i z; cases z
    · rename_i z; cases z
    · cases ho
  next x S1 =>
    simp only [Option.some.injEq, Prod.mk.injEq] at h
    obtain ⟨rfl, rfl, rfl, rfl⟩ := h
    have K := kk.same hl hP hD hS
    split at ho
    · rename_i z; cases z
    · exact lv_l2i hx hb hd (am_ol2i I.top) K
    · rename_i z; cases z
    · rename_i z; cases z
    · cases ho
  next x S1 =>
    simp only [Option.some.injEq, Prod.mk.injEq] at h
    obtain ⟨rfl, rfl, rfl, rfl⟩ := h
    have K := kk.same hl hP hD hS
    split at ho
    · rename_i z; cases z
    · rename_i z; cases z
    · exact lv_i2b hx hb hd (am_oi2b I.top) K
    · rename_i z; cases z
    · cases ho
  next x S1 =>
    simp only [Option.some.injEq, Prod.mk.injEq] at h
    obtain ⟨rfl, rfl, rfl, rfl⟩ := h
    have K := kk.same hl hP hD hS
    split at ho
    · rename_i z; cases z
    · rename_i z; cases z
    · rename_i z; cases z
    · exact lv_i2c hx hb hd (am_oi2c I.top) K
    · cases ho
  next => cases h
theorem am_w_lcmp (X : am_X T cl D cA A p s m args c cc nL own) (hd : decode cc pc = .ok (i, len)) (ho : am_okE .lcmp i len = true) (h : am_slcmp (pc + len) L S μ = some (pc', L', S', μ')) (I : am_I ft μ L S) (hl : am_lv ad ls nL L) (hP : va_P D cl (am_ws ft ad cA μ) H) (hD : va_D A (am_ws ft ad cA μ)) (hS : va_S A s.heap H locs) (kk : am_Kk ft p l e R s m args below meth c D cl cA A nL ad μ cells slots Q pc' L' S' μ') : W p l e R s m args below meth c H locs cells slots Q (F0 m pc ls (S.map (am_rv ad))) := by
  obtain ⟨hx, hb, -⟩ := X
  unfold am_okE at ho
  simp only [Bool.and_eq_true, decide_eq_true_eq] at ho
  obtain ⟨rfl, rfl⟩ := ho
  unfold am_slcmp at h
  split at h
  next y x S1 =>
    simp only [Option.some.injEq, Prod.mk.injEq] at h
    obtain ⟨rfl, rfl, rfl, rfl⟩ := h
    have K : W p l e R s m args below meth c H locs cells slots Q (F0 m (pc + 1) ls (.int (Int32.ofInt (am_lcmp x y)) :: S1.map (am_rv ad))) := kk.same hl hP hD hS
    exact W.lcmp hx hb hd (by rw [am_olcmp I.pop.top I.top]; exact K)
  next => cases h
def am_ok15 (a : Nat) (z : Int) (i : Instr) (len : Nat) : Bool := match i with
  | .iinc k n => decide (k = a) && (decide (n = z) && decide (len = 3))
  | _ => false
theorem am_w_inc {z : Int} (X : am_X T cl D cA A p s m args c cc nL own) (hd : decode cc pc = .ok (i, len)) (ho : am_ok15 a z i len = true) (h : am_sinc a z (pc + len) L S μ = some (pc', L', S', μ')) (hl : am_lv ad ls nL L) (hP : va_P D cl (am_ws ft ad cA μ) H) (hD : va_D A (am_ws ft ad cA μ)) (hS : va_S A s.heap H locs) (kk : am_Kk ft p l e R s m args below meth c D cl cA A nL ad μ cells slots Q pc' L' S' μ') : W p l e R s m args below meth c H locs cells slots Q (F0 m pc ls (S.map (am_rv ad))) := by
  obtain ⟨hx, hb, -⟩ := X
  unfold am_ok15 at ho
  split at ho
  next kx n =>
    simp only [Bool.and_eq_true, decide_eq_true_eq] at ho
    obtain ⟨rfl, rfl, rfl⟩ := ho
    unfold am_sinc at h
    split at h
    next x hv =>
      simp only [Option.some.injEq, Prod.mk.injEq] at h
      obtain ⟨rfl, rfl, rfl, rfl⟩ := h
      have hm : (kx, Value.int (Int32.ofInt x)) ∈ am_prs ad L := am_prs_mem.mpr ⟨vI x, hv, rfl⟩
      obtain ⟨j, hj⟩ := List.getElem?_of_mem hm
      have hlt : kx < nL := by rw [← hl.2]; exact (List.getElem?_eq_some_iff.mp hv).1
      exact lv_iinc hx hb hd hl.1 hj (by rw [← Int32.ofInt_add, ← am_of_w32]) hlt rfl (fun ls' h' => kk.same (hl.st1 (v := vI (w32 (x + n))) (by show ¬ 0 = 1; omega) h') hP hD hS)
    next => cases h
  next => cases ho
def am_condOf (a : Nat) : Option Jvm.ClassFile.Cond := match a with
  | 0 => some .eq
  | 1 => some .ne
  | 2 => some .lt
  | 3 => some .ge
  | 4 => some .gt
  | 5 => some .le
  | _ => none
def am_ok16 (pc a b : Nat) (i : Instr) (len : Nat) : Bool := match i with
  | .ifCond cd off => decide (am_condOf a = some cd) && (decide ((pc : Int) + off = (b : Int)) && decide (len = 3))
  | _ => false
theorem am_w_if (X : am_X T cl D cA A p s m args c cc nL own) (hd : decode cc pc = .ok (i, len)) (ho : am_ok16 pc a b i len = true) (h : am_sif a b (pc + len) L S μ = some (pc', L', S', μ')) (I : am_I ft μ L S) (hl : am_lv ad ls nL L) (hP : va_P D cl (am_ws ft ad cA μ) H) (hD : va_D A (am_ws ft ad cA μ)) (hS : va_S A s.heap H locs) (kk : am_Kk ft p l e R s m args below meth c D cl cA A nL ad μ cells slots Q pc' L' S' μ') : W p l e R s m args below meth c H locs cells slots Q (F0 m pc ls (S.map (am_rv ad))) := by
  obtain ⟨hx, hb, -⟩ := X
  unfold am_ok16 at ho
  split at ho
  next cd off =>
    simp only [Bool.and_eq_true, decide_eq_true_eq] at ho
    obtain ⟨h1, h2, rfl⟩ := ho
    unfold am_sif at h
    split at h
    next x S1 =>
      simp only [Option.some.injEq, Prod.mk.injEq] at h
      obtain ⟨rfl, rfl, rfl, rfl⟩ := h
      have rx : -2147483648 ≤ x ∧ x < 2147483648 := I.top
      have K := kk.same hl hP hD hS
      have r0 : (-2147483648 : Int) ≤ 0 ∧ (0 : Int) < 2147483648 := by omega
      have ht : ∀ {z : Prop}, (z ↔ am_cnd a x 0 = true) → z → W p l e R s m args below meth c H locs cells slots Q (F0 m b ls (S1.map (am_rv ad))) := fun e hz => by
        rw [if_pos (e.mp hz)] at K
        exact K
      have hf : ∀ {z : Prop}, (z ↔ am_cnd a x 0 = true) → ¬ z → W p l e R s m args below meth c H locs cells slots Q (F0 m (pc + 3) ls (S1.map (am_rv ad))) := fun e hz => by
        rw [if_neg (fun q => hz (e.mpr q))] at K
        exact K
      unfold am_condOf at h1
      split at h1
      · cases h1
        have e : Int32.ofInt x = 0 ↔ am_cnd 0 x 0 = true := by rw [← am_o0, am_oeq rx r0]; simp [am_cnd]
        exact lv_if_eq hx hb hd h2 (ht e) (hf e)
      · cases h1
        have e : ¬ Int32.ofInt x = 0 ↔ am_cnd 1 x 0 = true := by rw [← am_o0, am_oeq rx r0]; simp [am_cnd]
        exact lv_if_ne hx hb hd h2 (ht e) (fun q => hf e (fun z => z q))
      · cases h1
        have e : Int32.ofInt x < 0 ↔ am_cnd 2 x 0 = true := by rw [← am_o0, am_olt rx r0]; simp [am_cnd]
        exact lv_if_lt hx hb hd h2 (ht e) (hf e)
      · cases h1
        have e : 0 ≤ Int32.ofInt x ↔ am_cnd 3 x 0 = true := by rw [← am_o0, am_ole r0 rx]; simp [am_cnd]
        exact lv_if_ge hx hb hd h2 (ht e) (hf e)
      · cases h1
        have e : 0 < Int32.ofInt x ↔ am_cnd 4 x 0 = true := by rw [← am_o0, am_olt r0 rx]; simp [am_cnd]
        exact lv_if_gt hx hb hd h2 (ht e) (hf e)
      · cases h1
        have e : Int32.ofInt x ≤ 0 ↔ am_cnd 5 x 0 = true := by rw [← am_o0, am_ole rx r0]; simp [am_cnd]
        exact lv_if_le hx hb hd h2 (ht e) (hf e)
      · cases h1
    next => cases h
  next => cases ho
def am_ok17 (pc a b : Nat) (i : Instr) (len : Nat) : Bool := match i with
  | .if_icmp cd off => decide (am_condOf a = some cd) && (decide ((pc : Int) + off = (b : Int)) && decide (len = 3))
  | _ => false
theorem am_w_icmp (X : am_X T cl D cA A p s m args c cc nL own) (hd : decode cc pc = .ok (i, len)) (ho : am_ok17 pc a b i len = true) (h : am_sicmp a b (pc + len) L S μ = some (pc', L', S', μ')) (I : am_I ft μ L S) (hl : am_lv ad ls nL L) (hP : va_P D cl (am_ws ft ad cA μ) H) (hD : va_D A (am_ws ft ad cA μ)) (hS : va_S A s.heap H locs) (kk : am_Kk ft p l e R s m args below meth c D cl cA A nL ad μ cells slots Q pc' L' S' μ') : W p l e R s m args below meth c H locs cells slots Q (F0 m pc ls (S.map (am_rv ad))) := by
  obtain ⟨hx, hb, -⟩ := X
  unfold am_ok17 at ho
  split at ho
  next cd off =>
    simp only [Bool.and_eq_true, decide_eq_true_eq] at ho
    obtain ⟨h1, h2, rfl⟩ := ho
    unfold am_sicmp at h
    split at h
    next y x S1 =>
      simp only [Option.some.injEq, Prod.mk.injEq] at h
      obtain ⟨rfl, rfl, rfl, rfl⟩ := h
      have ry : -2147483648 ≤ y ∧ y < 2147483648 := I.top
      have rx : -2147483648 ≤ x ∧ x < 2147483648 := I.pop.top
      have K := kk.same hl hP hD hS
      have ht : ∀ {z : Prop}, (z ↔ am_cnd a x y = true) → z → W p l e R s m args below meth c H locs cells slots Q (F0 m b ls (S1.map (am_rv ad))) := fun e hz => by
        rw [if_pos (e.mp hz)] at K
        exact K
      have hf : ∀ {z : Prop}, (z ↔ am_cnd a x y = true) → ¬ z → W p l e R s m args below meth c H locs cells slots Q (F0 m (pc + 3) ls (S1.map (am_rv ad))) := fun e hz => by
        rw [if_neg (fun q => hz (e.mpr q))] at K
        exact K
      unfold am_condOf at h1
      split at h1
      · cases h1
        have e : Int32.ofInt x = Int32.ofInt y ↔ am_cnd 0 x y = true := by rw [am_oeq rx ry]; simp [am_cnd]
        exact lv_icmp_eq hx hb hd h2 (ht e) (hf e)
      · cases h1
        have e : ¬ Int32.ofInt x = Int32.ofInt y ↔ am_cnd 1 x y = true := by rw [am_oeq rx ry]; simp [am_cnd]
        exact lv_icmp_ne hx hb hd h2 (ht e) (fun q => hf e (fun z => z q))
      · cases h1
        have e : Int32.ofInt x < Int32.ofInt y ↔ am_cnd 2 x y = true := by rw [am_olt rx ry]; simp [am_cnd]
        exact lv_icmp_lt hx hb hd h2 (ht e) (hf e)
      · cases h1
        have e : Int32.ofInt y ≤ Int32.ofInt x ↔ am_cnd 3 x y = true := by rw [am_ole ry rx]; simp [am_cnd]
        exact lv_icmp_ge hx hb hd h2 (ht e) (hf e)
      · cases h1
        have e : Int32.ofInt y < Int32.ofInt x ↔ am_cnd 4 x y = true := by rw [am_olt ry rx]; simp [am_cnd]
        exact lv_icmp_gt hx hb hd h2 (ht e) (hf e)
      · cases h1
        have e : Int32.ofInt x ≤ Int32.ofInt y ↔ am_cnd 5 x y = true := by rw [am_ole rx ry]; simp [am_cnd]
        exact lv_icmp_le hx hb hd h2 (ht e) (hf e)
      · cases h1
    next => cases h
  next => cases ho
def am_ok18 (pc b : Nat) (i : Instr) (len : Nat) : Bool := match i with
  | .goto off => decide ((pc : Int) + off = (b : Int)) && decide (len = 3)
  | _ => false
theorem am_w_goto (X : am_X T cl D cA A p s m args c cc nL own) (hd : decode cc pc = .ok (i, len)) (ho : am_ok18 pc b i len = true) {st : List Value} (K : W p l e R s m args below meth c H locs cells slots Q (F0 m b ls st)) : W p l e R s m args below meth c H locs cells slots Q (F0 m pc ls st) := by
  obtain ⟨hx, hb, -⟩ := X
  unfold am_ok18 at ho
  split at ho
  next off =>
    simp only [Bool.and_eq_true, decide_eq_true_eq] at ho
    obtain ⟨h1, rfl⟩ := ho
    exact lv_goto hx hb hd h1 K
  next => cases ho
def am_ok19 (pc b : Nat) (z : Int) (offs : List Nat) (i : Instr) : Bool := match i with
  | .tableswitch dflt lo hi os => decide (lo = z) && (decide (hi = z + (offs.length : Int) - 1) && (decide ((pc : Int) + dflt = (b : Int)) && decide (os.toList.map (fun o => (pc : Int) + o) = offs.map (fun t : Nat => (t : Int)))))
  | _ => false
theorem am_w_tsw {z : Int} {offs : List Nat} (X : am_X T cl D cA A p s m args c cc nL own) (hd : decode cc pc = .ok (i, len)) (ho : am_ok19 pc b z offs i = true) (h : am_stsw b z offs L S μ = some (pc', L', S', μ')) (I : am_I ft μ L S) (hl : am_lv ad ls nL L) (hP : va_P D cl (am_ws ft ad cA μ) H) (hD : va_D A (am_ws ft ad cA μ)) (hS : va_S A s.heap H locs) (kk : am_Kk ft p l e R s m args below meth c D cl cA A nL ad μ cells slots Q pc' L' S' μ') : W p l e R s m args below meth c H locs cells slots Q (F0 m pc ls (S.map (am_rv ad))) := by
  obtain ⟨hx, hb, -⟩ := X
  unfold am_ok19 at ho
  split at ho
  next dflt lo hi os =>
    simp only [Bool.and_eq_true, decide_eq_true_eq] at ho
    obtain ⟨rfl, rfl, h2, h3⟩ := ho
    unfold am_stsw at h
    split at h
    next x S1 =>
      have rx : -2147483648 ≤ x ∧ x < 2147483648 := I.top
      split at h
      next hout =>
        simp only [Option.some.injEq, Prod.mk.injEq] at h
        obtain ⟨rfl, rfl, rfl, rfl⟩ := h
        exact lv_tableOut (x := Int32.ofInt x) hx hb hd (by rw [am_toI rx]; omega) h2 (kk.same hl hP hD hS)
      next hin =>
        split at h
        next t ht =>
          simp only [Option.some.injEq, Prod.mk.injEq] at h
          obtain ⟨rfl, rfl, rfl, rfl⟩ := h
          have h4 : (os.toList.map (fun o => (pc : Int) + o))[(x - lo).toNat]? = some (t : Int) := by
            rw [h3, List.getElem?_map, ht]
            rfl
          rw [List.getElem?_map] at h4
          cases ho : os.toList[(x - lo).toNat]? with
          | none => rw [ho] at h4; cases h4
          | some o =>
            rw [ho] at h4
            have h5 : (pc : Int) + o = (t : Int) := Option.some.inj h4
            exact lv_tableIn (x := Int32.ofInt x) hx hb hd (by rw [am_toI rx]; omega) (by rw [am_toI rx]; omega) (by rw [am_toI rx, ← Array.getElem?_toList]; exact ho) h5 (kk.same hl hP hD hS)
        next => cases h
    next => cases h
  next => cases ho
theorem am_cat1 {ad : Nat → Nat} {v : am_V} (h : ¬ am_tag v = 1) : (am_rv ad v).category = 1 := by
  match v, h with
  | .inl _, _ => rfl
  | .inr (.inl _), h => exact absurd rfl h
  | .inr (.inr _), _ => rfl
theorem am_w_dup (X : am_X T cl D cA A p s m args c cc nL own) (hd : decode cc pc = .ok (i, len)) (ho : am_okE .dup i len = true) (h : am_sdup (pc + len) L S μ = some (pc', L', S', μ')) (hl : am_lv ad ls nL L) (hP : va_P D cl (am_ws ft ad cA μ) H) (hD : va_D A (am_ws ft ad cA μ)) (hS : va_S A s.heap H locs) (kk : am_Kk ft p l e R s m args below meth c D cl cA A nL ad μ cells slots Q pc' L' S' μ') : W p l e R s m args below meth c H locs cells slots Q (F0 m pc ls (S.map (am_rv ad))) := by
  obtain ⟨hx, hb, -⟩ := X
  unfold am_okE at ho
  simp only [Bool.and_eq_true, decide_eq_true_eq] at ho
  obtain ⟨rfl, rfl⟩ := ho
  unfold am_sdup at h
  split at h
  next v S1 =>
    split at h
    next => cases h
    next ht =>
      simp only [Option.some.injEq, Prod.mk.injEq] at h
      obtain ⟨rfl, rfl, rfl, rfl⟩ := h
      exact lv_dup hx hb hd (am_cat1 ht) (kk.same hl hP hD hS)
  next => cases h
theorem am_w_dup2 (X : am_X T cl D cA A p s m args c cc nL own) (hd : decode cc pc = .ok (i, len)) (ho : am_okE .dup2 i len = true) (h : am_sdup2 (pc + len) L S μ = some (pc', L', S', μ')) (hl : am_lv ad ls nL L) (hP : va_P D cl (am_ws ft ad cA μ) H) (hD : va_D A (am_ws ft ad cA μ)) (hS : va_S A s.heap H locs) (kk : am_Kk ft p l e R s m args below meth c D cl cA A nL ad μ cells slots Q pc' L' S' μ') : W p l e R s m args below meth c H locs cells slots Q (F0 m pc ls (S.map (am_rv ad))) := by
  obtain ⟨hx, hb, -⟩ := X
  unfold am_okE at ho
  simp only [Bool.and_eq_true, decide_eq_true_eq] at ho
  obtain ⟨rfl, rfl⟩ := ho
  unfold am_sdup2 at h
  split at h
  next v u S1 =>
    split at h
    next => cases h
    next ht =>
      simp only [Option.some.injEq, Prod.mk.injEq] at h
      obtain ⟨rfl, rfl, rfl, rfl⟩ := h
      exact lv_dup2_11 hx hb hd (am_cat1 (fun z => ht (Or.inl z))) (am_cat1 (fun z => ht (Or.inr z))) (kk.same hl hP hD hS)
  next => cases h
theorem am_w_pop (X : am_X T cl D cA A p s m args c cc nL own) (hd : decode cc pc = .ok (i, len)) (ho : am_okE .pop i len = true) (h : am_spop (pc + len) L S μ = some (pc', L', S', μ')) (hl : am_lv ad ls nL L) (hP : va_P D cl (am_ws ft ad cA μ) H) (hD : va_D A (am_ws ft ad cA μ)) (hS : va_S A s.heap H locs) (kk : am_Kk ft p l e R s m args below meth c D cl cA A nL ad μ cells slots Q pc' L' S' μ') : W p l e R s m args below meth c H locs cells slots Q (F0 m pc ls (S.map (am_rv ad))) := by
  obtain ⟨hx, hb, -⟩ := X
  unfold am_okE at ho
  simp only [Bool.and_eq_true, decide_eq_true_eq] at ho
  obtain ⟨rfl, rfl⟩ := ho
  unfold am_spop at h
  split at h
  next v S1 =>
    split at h
    next => cases h
    next ht =>
      simp only [Option.some.injEq, Prod.mk.injEq] at h
      obtain ⟨rfl, rfl, rfl, rfl⟩ := h
      exact lv_pop hx hb hd (am_cat1 ht) (kk.same hl hP hD hS)
  next => cases h
end WST
end
section
/-! one instruction of the abstract machine is one of the machine: cells -/
/-- a cell that is only read -/
def am_roc (ft : List (List Nat)) (rcl : List (String × (Nat → String × String))) (ncl : Nat) (ad : Nat → Nat) (A : Nat → Prop) (s : State) (k : Nat) (c : am_C) (f : Nat → Int) : Prop :=
  (c.1 = 0 → va_T .int (ad k) c.2.1 (fun j => .int (Int32.ofInt (f j))) A s s.heap) ∧ (c.1 = 1 → va_T .byte (ad k) c.2.1 (fun j => .int (Int32.ofInt (f j))) A s s.heap) ∧ ¬ c.1 = 2 ∧ ¬ c.1 = 3 ∧
  (4 ≤ c.1 → ncl ≤ c.1 - 4 ∧ ∃ q, rcl[c.1 - 4 - ncl]? = some q ∧ va_O q.1 (ad k) A s s.heap ∧ ∀ j, j < c.2.1 → va_OF q.1 (q.2 j).1 (q.2 j).2 (am_fv ft ad f (c.1 - 4) c.2.2 j) (ad k) A s s.heap)
def am_RO (ft : List (List Nat)) (rcl : List (String × (Nat → String × String))) (ncl : Nat) (ad : Nat → Nat) (A : Nat → Prop) (s : State) (ro : List am_C) (σ : Nat → Nat → Int) : Prop := ∀ (i : Nat) (c : am_C), ro[i]? = some c → am_roc ft rcl ncl ad A s (1000 + i) c (σ (1000 + i))
/-- what the statics and the String constants hold -/
def am_GL (NT : List Cond) (strs : List (String × Nat × String)) (ad : Nat → Nat) (A : Nat → Prop) (s : State) : Prop := va_Z "EatenToll" "MOST_TOLD" "[I" (.ref (ad 1001)) A s s.heap ∧ va_Z "java/lang/String" "COMPACT_STRINGS" "Z" (.int 1) A s s.heap ∧ (∀ (a : Nat) (q : String × Nat × String), strs[a]? = some q → vk_R q.1 q.2.1 q.2.2 (ad (1002 + a)) s) ∧ va_Zq "jdk/internal/util/Preconditions" "SIOOBE_FORMATTER" "Ljava/util/function/BiFunction;" A s s.heap ∧ ∀ w ∈ NT, va_Nw w s
theorem am_fget_rv {ft : List (List Nat)} {ad : Nat → Nat} {σ : Nat → Nat → Int} {k ci j : Nat} {rs : List Nat} {v : am_V} (h : am_fget ft σ k ci j rs = some v) : am_rv ad v = am_fv ft ad (σ k) ci rs j := by
  unfold am_fget at h
  unfold am_fv
  split at h
  · rename_i e; rw [e]; cases h; rfl
  · rename_i e; rw [e]; cases h; rfl
  · rename_i e; rw [e]; cases h; rfl
  · rename_i e; rw [e]; cases h; rfl
  · rename_i e1 e2 e3 e4
    split at h
    next r hr =>
      cases h
      split
      · rename_i e; exact absurd e e1
      · rename_i e; exact absurd e e2
      · rename_i e; exact absurd e e3
      · rename_i e; exact absurd e e4
      · rw [hr]
        rfl
    next => cases h
section WME
variable {ft : List (List Nat)} {p : Program} {l : Launch} {e : Env} {R : Room} {s : State} {m : MethodId} {args : Array Value} {below : List Frame} {meth : Method} {c : Code} {D : va_G} {cl : List vw_C} {cA : Nat → ClassId} {A : Nat → Prop} {nL : Nat} {ad : Nat → Nat} {μ μ' : am_M} {cells slots : Nat} {Q : State → Prop} {pc pc' len a b : Nat} {L L' : am_L} {S S' : List am_V} {T : List Cond} {tk : Nat → Option Cond} {cc : ByteArray} {own : String} {H : Heap} {locs : List Loc} {ls : Array Slot} {i : Instr} {rcl : List (String × (Nat → String × String))} {strs : List (String × Nat × String)} {NT : List Cond}
def am_ok23 (tk : Nat → Option Cond) (cl : List vw_C) (rcl : List (String × (Nat → String × String))) (own : String) (a b d : Nat) (i : Instr) (len : Nat) : Bool := match i with
  | .getfield k => decide (len = 3) && (match cl[a]? with
    | some (C, Tt, N) => decide (b < N) && (decide (tk d = some (.fieldLink own k C (Tt b).2.1 (Tt b).2.2.1)) || decide (tk d = some (.fieldLinkNest own k C (Tt b).2.1 (Tt b).2.2.1 "EatenToll")))
    | none => match rcl[a - cl.length]? with
      | some (C, Tf) => decide (tk d = some (.fieldLink own k C (Tf b).1 (Tf b).2))
      | none => false)
  | _ => false
theorem am_w_getf {d : Nat} (htk : ∀ (d : Nat) (w : Cond), tk d = some w → w ∈ T) (X : am_X T cl D cA A p s m args c cc nL own) (hcl : am_clOk ft T cl) (hro : am_RO ft rcl cl.length ad A s μ.2.1 μ.2.2) (hd : decode cc pc = .ok (i, len)) (ho : am_ok23 tk cl rcl own a b d i len = true) (h : am_sgetf ft a b (pc + len) L S μ = some (pc', L', S', μ')) (I : am_I ft μ L S) (hl : am_lv ad ls nL L) (hP : va_P D cl (am_ws ft ad cA μ) H) (hD : va_D A (am_ws ft ad cA μ)) (hS : va_S A s.heap H locs) (kk : am_Kk ft p l e R s m args below meth c D cl cA A nL ad μ cells slots Q pc' L' S' μ') : W p l e R s m args below meth c H locs cells slots Q (F0 m pc ls (S.map (am_rv ad))) := by
  obtain ⟨hx, hb, -, hown, hts, hK, -⟩ := X
  unfold am_ok23 at ho
  split at ho
  next kx =>
    simp only [Bool.and_eq_true, decide_eq_true_eq] at ho
    obtain ⟨rfl, ho⟩ := ho
    unfold am_sgetf at h
    split at h
    next k S1 =>
      split at h
      next kd N rs hdsc =>
        split at h
        next hc =>
          obtain ⟨rfl, hj⟩ := hc
          split at h
          next v hv =>
            simp only [Option.some.injEq, Prod.mk.injEq] at h
            obtain ⟨rfl, rfl, rfl, rfl⟩ := h
            have K : W p l e R s m args below meth c H locs cells slots Q (F0 m (pc + 3) ls (am_rv ad v :: S1.map (am_rv ad))) := kk.same hl hP hD hS
            rw [am_fget_rv hv] at K
            unfold am_dsc at hdsc
            split at hdsc
            next hk =>
              have hw : (am_ws ft ad cA μ)[k]? = some (ad k, .inr (a, (List.range N).map (am_fv ft ad (μ.2.2 k) a rs))) := by rw [am_ws_get hdsc, am_cell_o]
              obtain ⟨r, hr, -⟩ := hP k _ hw
              obtain ⟨C, Tt, N'⟩ := r
              rw [hr] at ho
              simp only [Bool.and_eq_true, decide_eq_true_eq, Bool.or_eq_true] at ho
              obtain ⟨hb1, hlk⟩ := ho
              have hq := hcl a C Tt N' hr
              have hsame : ∀ x, s.fieldFound? (Tt b).1 (Tt b).2.1 (Tt b).2.2.1 = some x → s.fieldFound? C (Tt b).2.1 (Tt b).2.2.1 = some x := fun x hx' => by rw [(hq.2.1 b hb1).1] at hx'; exact hx'
              have hfs : ((List.range N).map (am_fv ft ad (μ.2.2 k) a rs))[b]? = some (am_fv ft ad (μ.2.2 k) a rs b) := by
                rw [List.getElem?_map, List.getElem?_range hj]
                rfl
              rcases hlk with hlk | hlk
              · exact va_get hx hb hts hq.1 hown hK hP k hw hr b hb1 (hts _ (htk _ _ hlk)) hsame hfs hd K
              · exact va_getN hx hb hts hq.1 hown hK hP k hw hr b hb1 (hts _ (htk _ _ hlk)) hsame hfs hd K
            next hk =>
              obtain ⟨-, -, -, -, h5⟩ := hro _ _ hdsc
              obtain ⟨h6, q, h7, h8, h9⟩ := h5 (by show 4 ≤ 4 + a; omega)
              have ea : 4 + a - 4 = a := by omega
              have ek : 1000 + (k - 1000) = k := by omega
              dsimp only at h6 h7 h8 h9
              rw [ea] at h6 h7 h9
              rw [ek] at h8 h9
              have hn : cl[a]? = none := List.getElem?_eq_none (by omega)
              rw [hn] at ho
              dsimp only at ho
              rw [h7] at ho
              obtain ⟨C, Tf⟩ := q
              simp only [decide_eq_true_eq] at ho
              exact vk_getf hx hb (h9 b hj) hS hown (hts _ (htk _ _ ho)) (fun x hx' => hx') hd K
          next => cases h
        next => cases h
      next => cases h
    next => cases h
  next => cases ho
def am_ok25 (tk : Nat → Option Cond) (own : String) (a d : Nat) (i : Instr) (len : Nat) : Bool := match i with
  | .getstatic k => decide (len = 3) && (match a with
    | 0 => decide (tk d = some (.fieldLinkNest own k "EatenToll" "MOST_TOLD" "[I" "EatenToll"))
    | _ => decide (tk d = some (.fieldLink own k "java/lang/String" "COMPACT_STRINGS" "Z")))
  | _ => false
theorem am_w_gets {d : Nat} (htk : ∀ (d : Nat) (w : Cond), tk d = some w → w ∈ T) (X : am_X T cl D cA A p s m args c cc nL own) (hg : am_GL NT strs ad A s) (hd : decode cc pc = .ok (i, len)) (ho : am_ok25 tk own a d i len = true) (h : am_sgets a (pc + len) L S μ = some (pc', L', S', μ')) (hl : am_lv ad ls nL L) (hP : va_P D cl (am_ws ft ad cA μ) H) (hD : va_D A (am_ws ft ad cA μ)) (hS : va_S A s.heap H locs) (kk : am_Kk ft p l e R s m args below meth c D cl cA A nL ad μ cells slots Q pc' L' S' μ') : W p l e R s m args below meth c H locs cells slots Q (F0 m pc ls (S.map (am_rv ad))) := by
  obtain ⟨hx, hb, -, hown, hts, hK, -⟩ := X
  unfold am_ok25 at ho
  split at ho
  next kx =>
    simp only [Bool.and_eq_true, decide_eq_true_eq] at ho
    obtain ⟨rfl, ho⟩ := ho
    unfold am_sgets at h
    split at h
    next =>
      simp only [Option.some.injEq, Prod.mk.injEq] at h
      obtain ⟨rfl, rfl, rfl, rfl⟩ := h
      simp only [decide_eq_true_eq] at ho
      exact va_getsN hx hb hg.1 hS hown (hts _ (htk _ _ ho)) (fun x hx' => hx') hd (kk.same hl hP hD hS)
    next =>
      simp only [Option.some.injEq, Prod.mk.injEq] at h
      obtain ⟨rfl, rfl, rfl, rfl⟩ := h
      simp only [decide_eq_true_eq] at ho
      exact va_gets hx hb hg.2.1 hS hown (hts _ (htk _ _ ho)) (fun x hx' => hx') hd (kk.same hl hP hD hS)
    next => cases h
  next => cases ho
def am_ok38 (strs : List (String × Nat × String)) (own : String) (a : Nat) (i : Instr) (len : Nat) : Bool := match i with
  | .ldc k => decide (len = 2) && (match strs[a]? with
    | some (o, k', _) => decide (o = own) && decide (k' = k)
    | none => false)
  | _ => false
theorem am_w_ldcs (X : am_X T cl D cA A p s m args c cc nL own) (hg : am_GL NT strs ad A s) (hd : decode cc pc = .ok (i, len)) (ho : am_ok38 strs own a i len = true) {st : List Value} (K : W p l e R s m args below meth c H locs cells slots Q (F0 m (pc + len) ls (.ref (ad (1002 + a)) :: st))) : W p l e R s m args below meth c H locs cells slots Q (F0 m pc ls st) := by
  obtain ⟨hx, hb, -, hown, hts, hK, -⟩ := X
  unfold am_ok38 at ho
  split at ho
  next kx =>
    simp only [Bool.and_eq_true, decide_eq_true_eq] at ho
    obtain ⟨rfl, ho⟩ := ho
    split at ho
    next o k' tx hs =>
      simp only [Bool.and_eq_true, decide_eq_true_eq] at ho
      obtain ⟨rfl, rfl⟩ := ho
      exact va_ldcS hx hb hown (hg.2.2.1 a _ hs) hd K
    next => cases ho
  next => cases ho
def am_ok26 (a : Nat) (i : Instr) (len : Nat) : Bool := decide (len = 1) && (match a with
  | 0 => decide (i = .iaload)
  | 1 => decide (i = .baload)
  | 2 => decide (i = .baload)
  | 3 => decide (i = .laload)
  | _ => false)
theorem am_w_ald (X : am_X T cl D cA A p s m args c cc nL own) (hro : am_RO ft rcl cl.length ad A s μ.2.1 μ.2.2) (hd : decode cc pc = .ok (i, len)) (ho : am_ok26 a i len = true) (h : am_sald a (pc + len) L S μ = some (pc', L', S', μ')) (I : am_I ft μ L S) (hl : am_lv ad ls nL L) (hP : va_P D cl (am_ws ft ad cA μ) H) (hD : va_D A (am_ws ft ad cA μ)) (hS : va_S A s.heap H locs) (kk : am_Kk ft p l e R s m args below meth c D cl cA A nL ad μ cells slots Q pc' L' S' μ') : W p l e R s m args below meth c H locs cells slots Q (F0 m pc ls (S.map (am_rv ad))) := by
  obtain ⟨hx, hb, -, hown, hts, hK, -⟩ := X
  unfold am_ok26 at ho
  simp only [Bool.and_eq_true, decide_eq_true_eq] at ho
  obtain ⟨rfl, ho⟩ := ho
  unfold am_sald at h
  split at h
  next ix k S1 =>
    split at h
    next kd N rs hdsc =>
      split at h
      next hc =>
        obtain ⟨rfl, h0, h1⟩ := hc
        simp only [Option.some.injEq, Prod.mk.injEq] at h
        obtain ⟨rfl, rfl, rfl, rfl⟩ := h
        have K := kk.same hl hP hD hS
        have ri : -2147483648 ≤ ix ∧ ix < 2147483648 := I.top
        have hin : vp_in (Int32.ofInt ix) N := am_oin ri h0 h1
        have hcl : (Int32.ofInt ix).toNatClampNeg = ix.toNat := am_ocl ri
        unfold am_dsc at hdsc
        split at hdsc
        next hk =>
          have hw := am_ws_get (ft := ft) (ad := ad) (cA := cA) hdsc
          split at ho
          · simp only [decide_eq_true_eq] at ho
            subst ho
            rw [am_cell_a (by omega)] at hw
            exact va_iald hx hb hK hP k 0 hw rfl hin hd (by rw [hcl]; exact K)
          · simp only [decide_eq_true_eq] at ho
            subst ho
            rw [am_cell_a (by omega)] at hw
            exact va_bald hx hb hK hP k 1 hw rfl hin hd (by rw [hcl]; exact K)
          · simp only [decide_eq_true_eq] at ho
            subst ho
            rw [am_cell_a (by omega)] at hw
            exact va_zald hx hb hK hP k 2 hw rfl hin hd (by rw [hcl]; exact K)
          · simp only [decide_eq_true_eq] at ho
            subst ho
            rw [am_cell_l] at hw
            exact va_lald hx hb hK hP k 3 hw rfl hin hd (by rw [hcl]; exact K)
          · cases ho
        next hk =>
          obtain ⟨g0, g1, g2, g3, -⟩ := hro _ _ hdsc
          have ek : 1000 + (k - 1000) = k := by omega
          dsimp only at g0 g1 g2 g3
          rw [ek] at g0 g1
          split at ho
          · simp only [decide_eq_true_eq] at ho
            subst ho
            exact va_ti hx hb (g0 rfl) hS hin (by rw [hcl]; rfl) hd K
          · simp only [decide_eq_true_eq] at ho
            subst ho
            exact va_tb hx hb (g1 rfl) hS hin (by rw [hcl]; rfl) hd K
          · exact absurd rfl g2
          · exact absurd rfl g3
          · cases ho
      next => cases h
    next => cases h
  next => cases h
theorem am_w_alen (X : am_X T cl D cA A p s m args c cc nL own) (hro : am_RO ft rcl cl.length ad A s μ.2.1 μ.2.2) (hd : decode cc pc = .ok (i, len)) (ho : am_okE .arraylength i len = true) (h : am_salen (pc + len) L S μ = some (pc', L', S', μ')) (I : am_I ft μ L S) (hl : am_lv ad ls nL L) (hP : va_P D cl (am_ws ft ad cA μ) H) (hD : va_D A (am_ws ft ad cA μ)) (hS : va_S A s.heap H locs) (kk : am_Kk ft p l e R s m args below meth c D cl cA A nL ad μ cells slots Q pc' L' S' μ') : W p l e R s m args below meth c H locs cells slots Q (F0 m pc ls (S.map (am_rv ad))) := by
  obtain ⟨hx, hb, -, hown, hts, hK, -⟩ := X
  unfold am_okE at ho
  simp only [Bool.and_eq_true, decide_eq_true_eq] at ho
  obtain ⟨rfl, rfl⟩ := ho
  unfold am_salen at h
  split at h
  next k S1 =>
    split at h
    next kd N rs hdsc =>
      split at h
      next hc =>
        simp only [Option.some.injEq, Prod.mk.injEq] at h
        obtain ⟨rfl, rfl, rfl, rfl⟩ := h
        have K : W p l e R s m args below meth c H locs cells slots Q (F0 m (pc + 1) ls (.int (Int32.ofInt (N : Int)) :: S1.map (am_rv ad))) := kk.same hl hP hD hS
        have hv : Int32.ofNat N = Int32.ofInt (N : Int) := am_nI N
        unfold am_dsc at hdsc
        split at hdsc
        next hk =>
          have hw := am_ws_get (ft := ft) (ad := ad) (cA := cA) hdsc
          obtain ⟨hc, -⟩ := hc
          rcases (by omega : kd = 0 ∨ kd = 1 ∨ kd = 2 ∨ kd = 3) with rfl | rfl | rfl | rfl
          · rw [am_cell_a (by omega)] at hw
            exact va_alen hx hb hK hP k 0 hw (ty := .int) rfl hv hd K
          · rw [am_cell_a (by omega)] at hw
            exact va_alen hx hb hK hP k 1 hw (ty := .byte) rfl hv hd K
          · rw [am_cell_a (by omega)] at hw
            exact va_alen hx hb hK hP k 2 hw (ty := .boolean) rfl hv hd K
          · rw [am_cell_l] at hw
            exact va_alen hx hb hK hP k 3 hw (ty := .long) rfl hv hd K
        next hk =>
          obtain ⟨g0, g1, g2, g3, -⟩ := hro _ _ hdsc
          have ek : 1000 + (k - 1000) = k := by omega
          dsimp only at g0 g1 g2 g3
          rw [ek] at g0 g1
          rcases (by omega : kd = 0 ∨ kd = 1) with rfl | rfl
          · exact va_tlen hx hb (g0 rfl) hS hv hd K
          · exact va_tlen hx hb (g1 rfl) hS hv hd K
      next => cases h
    next => cases h
  next => cases h
end WME
end
section
/-! cells that are written, new cells, calls of the JDK's own -/
theorem am_ob {x : Int} (h : am_okT 1 x = true) : vp_nar .byte (Int32.ofInt x) = Int32.ofInt x := by
  simp [am_okT] at h
  rw [vp_nar_byte, am_oi2b (by omega)]
  congr 1
  unfold am_i2b
  omega
theorem am_oz1 {x : Int} (h : am_okT 2 x = true) : Int32.ofInt x &&& 1 = Int32.ofInt x ∧ (Int32.ofInt x == 0 || Int32.ofInt x == 1) = true := by
  simp [am_okT] at h
  rcases (by omega : x = 0 ∨ x = 1) with rfl | rfl
  · decide
  · decide
theorem am_oz {x : Int} (h : am_okT 2 x = true) : vp_nar .boolean (Int32.ofInt x) = Int32.ofInt x := (am_oz1 h).1
theorem am_upd_i {σ : Nat → Nat → Int} {k j : Nat} {x : Int} : (fun i => Int32.ofInt (am_upd σ k j x k i)) = upd (fun i => Int32.ofInt (σ k i)) j (Int32.ofInt x) := by
  funext i
  unfold am_upd upd
  rw [if_pos rfl]
  split <;> rfl
theorem am_upd_l {σ : Nat → Nat → Int} {k j : Nat} {x : Int} : (fun i => Int64.ofInt (am_upd σ k j x k i)) = vp_updL (fun i => Int64.ofInt (σ k i)) j (Int64.ofInt x) := by
  funext i
  unfold am_upd vp_updL
  rw [if_pos rfl]
  split <;> rfl
theorem am_ws_upd {ft : List (List Nat)} {ad : Nat → Nat} {cA : Nat → ClassId} {μ : am_M} {k j : Nat} {x : Int} {c : am_C} (h : μ.1[k]? = some c) : am_ws ft ad cA (μ.1, μ.2.1, am_upd μ.2.2 k j x) = (am_ws ft ad cA μ).set k (ad k, am_cell ft ad cA (am_upd μ.2.2 k j x k) c) := am_ws_set (μ' := (μ.1, μ.2.1, am_upd μ.2.2 k j x)) h (fun _ _ => rfl) (fun _ hi => am_upd_ne hi) h
theorem am_ws_row {ft : List (List Nat)} {ad : Nat → Nat} {cA : Nat → ClassId} {μ : am_M} {k : Nat} {f : Nat → Int} {c : am_C} (h : μ.1[k]? = some c) : am_ws ft ad cA (μ.1, μ.2.1, am_row μ.2.2 k f) = (am_ws ft ad cA μ).set k (ad k, am_cell ft ad cA f c) := by
  rw [am_ws_set (μ' := (μ.1, μ.2.1, am_row μ.2.2 k f)) h (fun _ _ => rfl) (fun _ hi => am_row_ne hi) h]
  show (am_ws ft ad cA μ).set k (ad k, am_cell ft ad cA (am_row μ.2.2 k f k) c) = _
  rw [am_row_eq]
theorem am_range_set {N j : Nat} {f g : Nat → Value} (hj : j < N) (h : ∀ i, i ≠ j → g i = f i) : (List.range N).map g = ((List.range N).map f).set j (g j) := by
  apply List.ext_getElem?
  intro i
  by_cases e : i = j
  · subst e
    rw [List.getElem?_set_self (by simp; omega), List.getElem?_map, List.getElem?_range hj]
    rfl
  · rw [List.getElem?_set_ne (Ne.symm e), List.getElem?_map, List.getElem?_map]
    cases hr : (List.range N)[i]? with
    | none => rfl
    | some q =>
      have hq : q = i := by
        have hlt : i < N := by have := (List.getElem?_eq_some_iff.mp hr).1; simpa using this
        rw [List.getElem?_range hlt] at hr
        exact (Option.some.inj hr).symm
      subst hq
      show some (g q) = some (f q)
      rw [h q e]
section WM2
variable {ft : List (List Nat)} {p : Program} {l : Launch} {e : Env} {R : Room} {s : State} {m : MethodId} {args : Array Value} {below : List Frame} {meth : Method} {c : Code} {D : va_G} {cl : List vw_C} {cA : Nat → ClassId} {A : Nat → Prop} {nL : Nat} {ad : Nat → Nat} {μ μ' : am_M} {cells slots : Nat} {Q : State → Prop} {pc pc' len a b : Nat} {L L' : am_L} {S S' : List am_V} {T : List Cond} {tk : Nat → Option Cond} {cc : ByteArray} {own : String} {H : Heap} {locs : List Loc} {ls : Array Slot} {i : Instr} {rcl : List (String × (Nat → String × String))} {strs : List (String × Nat × String)}
theorem am_Kk.keep {σ : Nat → Nat → Int} (kk : am_Kk ft p l e R s m args below meth c D cl cA A nL ad μ cells slots Q pc' L' S' (μ.1, μ.2.1, σ)) (hl : am_lv ad ls nL L') (hP : va_P D cl (am_ws ft ad cA (μ.1, μ.2.1, σ)) H) (hD : va_D A (am_ws ft ad cA (μ.1, μ.2.1, σ))) (hS : va_S A s.heap H locs) : W p l e R s m args below meth c H locs cells slots Q (F0 m pc' ls (S'.map (am_rv ad))) := by
  have h := kk ad H locs ls am_ext.rf hl hP hD hS
  refine W.cs ?_ ?_ h
  · show cells = cells + (μ.1.length - μ.1.length)
    omega
  · show slots = slots + (am_sl μ - am_sl μ)
    omega
def am_ok27 (a : Nat) (i : Instr) (len : Nat) : Bool := decide (len = 1) && (match a with
  | 0 => decide (i = .iastore)
  | 1 => decide (i = .bastore)
  | 2 => decide (i = .bastore)
  | 3 => decide (i = .lastore)
  | _ => false)
theorem am_w_ast (X : am_X T cl D cA A p s m args c cc nL own) (hd : decode cc pc = .ok (i, len)) (ho : am_ok27 a i len = true) (h : am_sast a (pc + len) L S μ = some (pc', L', S', μ')) (I : am_I ft μ L S) (hl : am_lv ad ls nL L) (hP : va_P D cl (am_ws ft ad cA μ) H) (hD : va_D A (am_ws ft ad cA μ)) (hS : va_S A s.heap H locs) (kk : am_Kk ft p l e R s m args below meth c D cl cA A nL ad μ cells slots Q pc' L' S' μ') : W p l e R s m args below meth c H locs cells slots Q (F0 m pc ls (S.map (am_rv ad))) := by
  obtain ⟨hx, hb, -, hown, hts, hK, -⟩ := X
  unfold am_ok27 at ho
  simp only [Bool.and_eq_true, decide_eq_true_eq] at ho
  obtain ⟨rfl, ho⟩ := ho
  unfold am_sast at h
  split at h
  next x ix k S1 =>
    split at h
    next kd N rs hdsc =>
      split at h
      next hc =>
        obtain ⟨rfl, ha, h0, h1, hok⟩ := hc
        simp only [Option.some.injEq, Prod.mk.injEq] at h
        obtain ⟨rfl, rfl, rfl, rfl⟩ := h
        have ri : -2147483648 ≤ ix ∧ ix < 2147483648 := I.pop.top
        have hin : vp_in (Int32.ofInt ix) N := am_oin ri h0 h1
        have hcl : (Int32.ofInt ix).toNatClampNeg = ix.toNat := am_ocl ri
        have hw := am_ws_get (ft := ft) (ad := ad) (cA := cA) hdsc
        have hu := am_ws_upd (ft := ft) (ad := ad) (cA := cA) (j := ix.toNat) (x := x) hdsc
        rw [am_cell_a ha] at hw
        rw [am_cell_a ha, am_upd_i] at hu
        split at ho
        · simp only [decide_eq_true_eq] at ho
          subst ho
          refine va_iast hx hb hK hP hD hS k 0 hw rfl hin hd (fun H1 locs1 q1 q2 q3 => ?_)
          rw [hcl, ← hu] at q1 q2
          exact kk.keep hl q1 q2 q3
        · simp only [decide_eq_true_eq] at ho
          subst ho
          refine va_bast hx hb hK hP hD hS k 1 hw rfl hin hd (fun H1 locs1 q1 q2 q3 => ?_)
          rw [hcl, am_ob hok, ← hu] at q1 q2
          exact kk.keep hl q1 q2 q3
        · simp only [decide_eq_true_eq] at ho
          subst ho
          refine va_zast hx hb hK hP hD hS k 2 hw rfl hin hd (fun H1 locs1 q1 q2 q3 => ?_)
          rw [hcl, am_oz hok, ← hu] at q1 q2
          exact kk.keep hl q1 q2 q3
        · omega
        · cases ho
      next => cases h
    next => cases h
  next x ix k S1 =>
    split at h
    next kd N rs hdsc =>
      split at h
      next hc =>
        obtain ⟨rfl, rfl, h0, h1⟩ := hc
        simp only [Option.some.injEq, Prod.mk.injEq] at h
        obtain ⟨rfl, rfl, rfl, rfl⟩ := h
        have ri : -2147483648 ≤ ix ∧ ix < 2147483648 := I.pop.top
        have hin : vp_in (Int32.ofInt ix) N := am_oin ri h0 h1
        have hcl : (Int32.ofInt ix).toNatClampNeg = ix.toNat := am_ocl ri
        have hw := am_ws_get (ft := ft) (ad := ad) (cA := cA) hdsc
        have hu := am_ws_upd (ft := ft) (ad := ad) (cA := cA) (j := ix.toNat) (x := x) hdsc
        rw [am_cell_l] at hw
        rw [am_cell_l, am_upd_l] at hu
        simp only [decide_eq_true_eq] at ho
        subst ho
        refine va_last hx hb hK hP hD hS k 3 hw rfl hin hd (fun H1 locs1 q1 q2 q3 => ?_)
        rw [hcl, ← hu] at q1 q2
        exact kk.keep hl q1 q2 q3
      next => cases h
    next => cases h
  next => cases h
def am_ok24 (ft : List (List Nat)) (tk : Nat → Option Cond) (cl : List vw_C) (own nm : String) (a b d : Nat) (i : Instr) (len : Nat) : Bool := match i with
  | .putfield k => decide (len = 3) && (match cl[a]? with
    | some (C, Tt, N) => decide (b < N) && (decide (tk d = some (.fieldLink own k C (Tt b).2.1 (Tt b).2.2.1)) || (decide (tk d = some (.fieldLinkNest own k C (Tt b).2.1 (Tt b).2.2.1 "EatenToll")) && decide (¬ am_ft ft a b = 4))) && (decide (¬ am_ft ft a b = 4) || (decide (nm = "<init>") && decide (C = own)))
    | none => false)
  | _ => false
theorem am_fv_o {f : Nat → Int} {ci j : Nat} {rs : List Nat} (h : am_ft ft ci j = 0 ∨ am_ft ft ci j = 2) : am_fv ft ad f ci rs j = .int (Int32.ofInt (f j)) := by
  unfold am_fv
  rcases h with h | h <;> rw [h] <;> rfl
theorem am_fv_l {f : Nat → Int} {ci j : Nat} {rs : List Nat} (h : am_ft ft ci j = 3) : am_fv ft ad f ci rs j = .long (Int64.ofInt (f j)) := by
  unfold am_fv
  rw [h]
  rfl
theorem am_fv_r {f : Nat → Int} {ci j r : Nat} {rs : List Nat} (h : am_ft ft ci j = 4) (hr : rs[j]? = some (r + 1)) : am_fv ft ad f ci rs j = .ref (ad r) := by
  unfold am_fv
  rw [h, hr]
  rfl
theorem am_fv_c {f g : Nat → Int} {ci j : Nat} {rs rs' : List Nat} (h : f j = g j) (hr : rs[j]? = rs'[j]?) : am_fv ft ad f ci rs j = am_fv ft ad g ci rs' j := by
  unfold am_fv
  rw [h, hr]
theorem am_put_go {d k N kx : Nat} {rs : List Nat} {C : String} {Tt : u_T} {N' : Nat} {v : Value} {st : List Value} (htk : ∀ (d : Nat) (w : Cond), tk d = some w → w ∈ T) (X : am_X T cl D cA A p s m args c cc nL own) (hcl : am_clOk ft T cl) (hr : cl[a]? = some (C, Tt, N')) (hb1 : b < N') (hlk : tk d = some (.fieldLink own kx C (Tt b).2.1 (Tt b).2.2.1) ∨ tk d = some (.fieldLinkNest own kx C (Tt b).2.1 (Tt b).2.2.1 "EatenToll")) (hj : b < N) (hw : (am_ws ft ad cA μ)[k]? = some (ad k, .inr (a, (List.range N).map (am_fv ft ad (μ.2.2 k) a rs)))) (hfin : (Tt b).2.2.2 = false) {ty : FieldType} (hty : parseFieldDescriptor (Tt b).2.2.1 = some ty) (hn : narrow ty v = v) (hfit : fits ty v = true) (hP : va_P D cl (am_ws ft ad cA μ) H) (hD : va_D A (am_ws ft ad cA μ)) (hS : va_S A s.heap H locs) (hd : decode cc pc = .ok (.putfield kx, 3)) (K : ∀ (H1 : Heap) (locs1 : List Loc), va_P D cl ((am_ws ft ad cA μ).set k (ad k, .inr (a, ((List.range N).map (am_fv ft ad (μ.2.2 k) a rs)).set b v))) H1 → va_D A ((am_ws ft ad cA μ).set k (ad k, .inr (a, ((List.range N).map (am_fv ft ad (μ.2.2 k) a rs)).set b v))) → va_S A s.heap H1 locs1 → W p l e R s m args below meth c H1 locs1 cells slots Q (F0 m (pc + 3) ls st)) : W p l e R s m args below meth c H locs cells slots Q (F0 m pc ls (v :: .ref (ad k) :: st)) := by
  obtain ⟨hx, hb, -, hown, hts, hK, -⟩ := X
  have hq := hcl a C Tt N' hr
  have hsame : ∀ x, s.fieldFound? (Tt b).1 (Tt b).2.1 (Tt b).2.2.1 = some x → s.fieldFound? C (Tt b).2.1 (Tt b).2.2.1 = some x := fun x hx' => by rw [(hq.2.1 b hb1).1] at hx'; exact hx'
  have htys : ∀ k, k < N' → parseFieldDescriptor (Tt k).2.2.1 = some ((fun k => (parseFieldDescriptor (Tt k).2.2.1).getD .int) k) := fun k hk => by
    obtain ⟨-, ty', h1, -⟩ := hq.2.1 k hk
    show _ = some ((parseFieldDescriptor (Tt k).2.2.1).getD .int)
    rw [h1]
    rfl
  rcases hlk with hlk | hlk
  · exact va_put hx hb hts hq.1 (fun k => (parseFieldDescriptor (Tt k).2.2.1).getD .int) htys hq.2.2.1 hown hK hP hD hS k hw hr b hb1 (hts _ (htk _ _ hlk)) hsame hfin hty hn hfit (by simpa using hj) hd K
  · exact va_putN hx hb hts hq.1 (fun k => (parseFieldDescriptor (Tt k).2.2.1).getD .int) htys hq.2.2.1 hown hK hP hD hS k hw hr b hb1 (hts _ (htk _ _ hlk)) hsame hfin hty hn hfit (by simpa using hj) hd K
theorem am_w_putf {d : Nat} {nm : String} (htk : ∀ (d : Nat) (w : Cond), tk d = some w → w ∈ T) (X : am_X T cl D cA A p s m args c cc nL own) (hcl : am_clOk ft T cl) (hnm : nm = "<init>" → meth.name = "<init>") (hd : decode cc pc = .ok (i, len)) (ho : am_ok24 ft tk cl own nm a b d i len = true) (h : am_sputf ft a b (pc + len) L S μ = some (pc', L', S', μ')) (I : am_I ft μ L S) (hl : am_lv ad ls nL L) (hP : va_P D cl (am_ws ft ad cA μ) H) (hD : va_D A (am_ws ft ad cA μ)) (hS : va_S A s.heap H locs) (kk : am_Kk ft p l e R s m args below meth c D cl cA A nL ad μ cells slots Q pc' L' S' μ') : W p l e R s m args below meth c H locs cells slots Q (F0 m pc ls (S.map (am_rv ad))) := by
  unfold am_ok24 at ho
  split at ho
  next kx =>
    simp only [Bool.and_eq_true, decide_eq_true_eq] at ho
    obtain ⟨rfl, ho⟩ := ho
    split at ho
    next C Tt N' hr =>
      simp only [Bool.and_eq_true, decide_eq_true_eq, Bool.or_eq_true] at ho
      obtain ⟨⟨hb1, hlk⟩, hin⟩ := ho
      have hq := hcl a C Tt N' hr
      obtain ⟨hC, ty, hty, hft⟩ := hq.2.1 b hb1
      unfold am_sputf at h
      split at h
      next x k S1 =>
        split at h
        next kd N rs hdsc =>
          split at h
          next hc =>
            obtain ⟨rfl, hj, h0, hok⟩ := hc
            simp only [Option.some.injEq, Prod.mk.injEq] at h
            obtain ⟨rfl, rfl, rfl, rfl⟩ := h
            have hw : (am_ws ft ad cA μ)[k]? = some (ad k, .inr (a, (List.range N).map (am_fv ft ad (μ.2.2 k) a rs))) := by rw [am_ws_get hdsc, am_cell_o]
            have hu := am_ws_upd (ft := ft) (ad := ad) (cA := cA) (j := b) (x := x) hdsc
            rw [am_cell_o, am_range_set (f := am_fv ft ad (μ.2.2 k) a rs) hj (fun i hi => am_fv_c (by unfold am_upd; rw [if_pos rfl, if_neg hi]) rfl), am_fv_o h0] at hu
            have e1 : am_upd μ.2.2 k b x k b = x := by unfold am_upd; rw [if_pos rfl, if_pos rfl]
            rw [e1] at hu
            have hfin : (Tt b).2.2.2 = false := by
              rcases hft with z | z | z | z
              · exact z.2.2
              · exact z.2.2
              · exact z.2.2
              · omega
            have hnf : narrow ty (.int (Int32.ofInt x)) = .int (Int32.ofInt x) ∧ fits ty (.int (Int32.ofInt x)) = true := by
              rcases hft with z | z | z | z
              · rw [z.2.1]; exact ⟨rfl, rfl⟩
              · rw [z.1] at hok
                rw [z.2.1]
                exact ⟨congrArg Value.int (am_oz1 hok).1, (am_oz1 hok).2⟩
              · omega
              · omega
            refine am_put_go (v := .int (Int32.ofInt x)) htk X hcl hr hb1 (hlk.imp_right And.left) hj hw hfin hty hnf.1 hnf.2 hP hD hS hd (fun H1 locs1 q1 q2 q3 => ?_)
            rw [← hu] at q1 q2
            exact kk.keep hl q1 q2 q3
          next => cases h
        next => cases h
      next x k S1 =>
        split at h
        next kd N rs hdsc =>
          split at h
          next hc =>
            obtain ⟨rfl, hj, h0⟩ := hc
            simp only [Option.some.injEq, Prod.mk.injEq] at h
            obtain ⟨rfl, rfl, rfl, rfl⟩ := h
            have hw : (am_ws ft ad cA μ)[k]? = some (ad k, .inr (a, (List.range N).map (am_fv ft ad (μ.2.2 k) a rs))) := by rw [am_ws_get hdsc, am_cell_o]
            have hu := am_ws_upd (ft := ft) (ad := ad) (cA := cA) (j := b) (x := x) hdsc
            rw [am_cell_o, am_range_set (f := am_fv ft ad (μ.2.2 k) a rs) hj (fun i hi => am_fv_c (by unfold am_upd; rw [if_pos rfl, if_neg hi]) rfl), am_fv_l h0] at hu
            have e1 : am_upd μ.2.2 k b x k b = x := by unfold am_upd; rw [if_pos rfl, if_pos rfl]
            rw [e1] at hu
            have hfin : (Tt b).2.2.2 = false ∧ ty = .long := by
              rcases hft with z | z | z | z
              · omega
              · omega
              · exact ⟨z.2.2, z.2.1⟩
              · omega
            refine am_put_go (v := .long (Int64.ofInt x)) htk X hcl hr hb1 (hlk.imp_right And.left) hj hw hfin.1 hty (by rw [hfin.2]; rfl) (by rw [hfin.2]; rfl) hP hD hS hd (fun H1 locs1 q1 q2 q3 => ?_)
            rw [← hu] at q1 q2
            exact kk.keep hl q1 q2 q3
          next => cases h
        next => cases h
      next r k S1 =>
        split at h
        next kd N rs hdsc =>
          split at h
          next hc =>
            obtain ⟨rfl, hj, h0, hrl⟩ := hc
            simp only [Option.some.injEq, Prod.mk.injEq] at h
            obtain ⟨rfl, rfl, rfl, rfl⟩ := h
            have hw : (am_ws ft ad cA μ)[k]? = some (ad k, .inr (a, (List.range N).map (am_fv ft ad (μ.2.2 k) a rs))) := by rw [am_ws_get hdsc, am_cell_o]
            have hk : k < μ.1.length := (List.getElem?_eq_some_iff.mp hdsc).1
            have hu := am_ws_set (ft := ft) (ad := ad) (cA := cA) (μ' := (μ.1.set k (4 + a, N, rs.set b (r + 1)), μ.2.1, μ.2.2)) (c' := (4 + a, N, rs.set b (r + 1))) hdsc (fun i hi => List.getElem?_set_ne (Ne.symm hi)) (fun _ _ => rfl) (List.getElem?_set_self hk)
            have hrb : (rs.set b (r + 1))[b]? = some (r + 1) := List.getElem?_set_self (by omega)
            rw [am_cell_o, am_range_set (f := am_fv ft ad (μ.2.2 k) a rs) hj (fun i hi => am_fv_c rfl (List.getElem?_set_ne (Ne.symm hi))), am_fv_r h0 hrb] at hu
            have hlk2 : tk d = some (.fieldLink own kx C (Tt b).2.1 (Tt b).2.2.1) := hlk.elim (fun z => z) (fun z => absurd h0 z.2)
            have hin2 := hin.elim (fun z => absurd h0 z) (fun z => z)
            have hfin : (Tt b).2.2.2 = true ∧ ((∃ n, ty = .object n) ∨ ∃ u, ty = .array u) := by
              rcases hft with z | z | z | z
              · omega
              · omega
              · omega
              · exact z.2
            have hnf : narrow ty (.ref (ad r)) = .ref (ad r) ∧ fits ty (.ref (ad r)) = true := by
              rcases hfin.2 with ⟨n, rfl⟩ | ⟨u, rfl⟩ <;> exact ⟨rfl, rfl⟩
            obtain ⟨hx, hb, -, hown, hts, hK, -⟩ := X
            have hsame : ∀ x, s.fieldFound? (Tt b).1 (Tt b).2.1 (Tt b).2.2.1 = some x → s.fieldFound? C (Tt b).2.1 (Tt b).2.2.1 = some x := fun x hx' => by rw [hC] at hx'; exact hx'
            have htys : ∀ k, k < N' → parseFieldDescriptor (Tt k).2.2.1 = some ((fun k => (parseFieldDescriptor (Tt k).2.2.1).getD .int) k) := fun k hk => by
              obtain ⟨-, ty', h1, -⟩ := hq.2.1 k hk
              show _ = some ((parseFieldDescriptor (Tt k).2.2.1).getD .int)
              rw [h1]
              rfl
            refine va_putF (v := .ref (ad r)) hx hb hts hq.1 (fun k => (parseFieldDescriptor (Tt k).2.2.1).getD .int) htys hq.2.2.1 hown hK hP hD hS k hw hr b hb1 (hts _ (htk _ _ hlk2)) hsame hfin.1 (hnm hin2.1) (hC.trans hin2.2) hty hnf.1 hnf.2 (by simpa using hj) hd (fun H1 locs1 q1 q2 q3 => ?_)
            rw [← hu] at q1 q2
            have K := kk ad H1 locs1 ls am_ext.rf hl q1 q2 q3
            refine W.cs ?_ ?_ K
            · show cells = cells + ((μ.1.set k _).length - μ.1.length)
              rw [List.length_set]
              omega
            · show slots = slots + (((μ.1.set k (4 + a, N, rs.set b (r + 1))).map (fun c => c.2.1)).sum - am_sl μ)
              rw [am_sl_set (c' := (4 + a, N, rs.set b (r + 1))) hdsc rfl]
              show slots = slots + (am_sl μ - am_sl μ)
              omega
          next => cases h
        next => cases h
      next => cases h
    next => cases ho
  next => cases ho
def am_ok31 (tk : Nat → Option Cond) (cl : List vw_C) (own : String) (a b d : Nat) (i : Instr) (len : Nat) : Bool := match i with
  | .new k => decide (len = 3) && (match cl[a]? with
    | some (C, _, N) => decide (N = b) && decide (tk d = some (.classLink own k C))
    | none => false)
  | _ => false
theorem am_w_new {d : Nat} (htk : ∀ (d : Nat) (w : Cond), tk d = some w → w ∈ T) (X : am_X T cl D cA A p s m args c cc nL own) (hcl : am_clOk ft T cl) (hd : decode cc pc = .ok (i, len)) (ho : am_ok31 tk cl own a b d i len = true) (h : am_snew a b (pc + len) L S μ = some (pc', L', S', μ')) (I : am_I ft μ L S) (hroom : cells + (μ'.1.length - μ.1.length) ≤ R.cells ∧ slots + (am_sl μ' - am_sl μ) ≤ R.slots) (hl : am_lv ad ls nL L) (hP : va_P D cl (am_ws ft ad cA μ) H) (hD : va_D A (am_ws ft ad cA μ)) (hS : va_S A s.heap H locs) (kk : am_Kk ft p l e R s m args below meth c D cl cA A nL ad μ cells slots Q pc' L' S' μ') : W p l e R s m args below meth c H locs cells slots Q (F0 m pc ls (S.map (am_rv ad))) := by
  obtain ⟨hx, hb, -, hown, hts, hK, hA⟩ := X
  unfold am_ok31 at ho
  split at ho
  next kx =>
    simp only [Bool.and_eq_true, decide_eq_true_eq] at ho
    obtain ⟨rfl, ho⟩ := ho
    split at ho
    next C Tt N hr =>
      simp only [Bool.and_eq_true, decide_eq_true_eq] at ho
      obtain ⟨rfl, hlk⟩ := ho
      have hq := hcl a C Tt N hr
      unfold am_snew at h
      split at h
      next hlt =>
        simp only [Option.some.injEq, Prod.mk.injEq] at h
        obtain ⟨rfl, rfl, rfl, rfl⟩ := h
        have e1 : (μ.1 ++ [(4 + a, N, List.replicate N 0)]).length - μ.1.length = 1 := by simp
        have e2 : am_sl (μ.1 ++ [(4 + a, N, List.replicate N 0)], μ.2.1, am_row μ.2.2 μ.1.length (fun _ => 0)) - am_sl μ = N := by rw [am_sl_new]; show am_sl μ + N - am_sl μ = N; omega
        rw [e2] at hroom
        have hroom1 : cells + 1 ≤ R.cells := by have := hroom.1; dsimp only at this; rw [e1] at this; exact this
        refine va_new (ci := a) (fs := (List.range N).map (am_fv ft ad (fun _ => 0) a (List.replicate N 0))) hx hb hts hq.1 (fun k => (parseFieldDescriptor (Tt k).2.2.1).getD .int) (fun k hk => ?_) hown (hts _ (htk _ _ hlk)) (hts _ hq.2.2.2.1) (hts _ hq.2.2.2.2) hK hP hD hS hA hr (fun j hj => ?_) hroom1 hroom.2 hd (fun q H1 q1 q2 q3 => ?_)
        · obtain ⟨-, ty', h1, -⟩ := hq.2.1 k hk
          show _ = some ((parseFieldDescriptor (Tt k).2.2.1).getD .int)
          rw [h1]
          rfl
        · obtain ⟨-, ty', h1, h2⟩ := hq.2.1 j hj
          show defaultValue ((parseFieldDescriptor (Tt j).2.2.1).getD .int) = _
          rw [h1]
          unfold vp_V
          rw [List.getD_eq_getElem?_getD, List.getElem?_map, List.getElem?_range hj]
          show defaultValue ty' = am_fv ft ad (fun _ => 0) a (List.replicate N 0) j
          rcases h2 with z | z | z | z
          · rw [z.2.1, am_fv_o (Or.inl z.1)]; rfl
          · rw [z.2.1, am_fv_o (Or.inr z.1)]; rfl
          · rw [z.2.1, am_fv_l z.1]; rfl
          · have h3 : (List.replicate N 0)[j]? = some 0 := by simp [hj]
            unfold am_fv
            rw [z.1, h3]
            rcases z.2.2 with ⟨n, rfl⟩ | ⟨u, rfl⟩ <;> rfl
        · have hw := am_ws_new (ft := ft) (ad := ad) (cA := cA) I.1 hlt (4 + a, N, List.replicate N 0) q
          rw [am_cell_o] at hw
          have hfv : (List.range N).map (am_fv ft (fun i => if i = μ.1.length then q else ad i) (fun _ => 0) a (List.replicate N 0)) = (List.range N).map (am_fv ft ad (fun _ => 0) a (List.replicate N 0)) := by
            apply List.map_congr_left
            intro j hj
            refine am_fv_ext (n := 0) (fun k hk => if_neg (by omega)) (fun j r hr' => ?_) j
            have := List.eq_of_mem_replicate (List.mem_of_getElem? hr')
            omega
          rw [hfv] at hw
          rw [← hw] at q1 q2
          have hext : am_ext μ.1.length ad (fun i => if i = μ.1.length then q else ad i) := fun k hk => if_neg (by omega)
          have K := kk _ H1 _ ls hext (hl.ext hext I.2.1) q1 q2 q3
          refine W.cs ?_ ?_ (W.eq ?_ K)
          · dsimp only
            rw [e1]
          · rw [e2]
          · show F0 m (pc + 3) ls (.ref q :: S.map (am_rv ad)) = F0 m (pc + 3) ls (.ref (if μ.1.length = μ.1.length then q else ad μ.1.length) :: S.map (am_rv _))
            rw [if_pos rfl, am_rvs_ext hext I.2.2]
      next => cases h
    next => cases ho
  next => cases ho
def am_aty (a : Nat) : FieldType := match a with
  | 0 => .int
  | 1 => .byte
  | 2 => .boolean
  | _ => .long
def am_ok32 (a : Nat) (i : Instr) (len : Nat) : Bool := match i with
  | .newarray t => decide (len = 2) && (decide (newarray.typeOf t = am_aty a) && decide (a < 4))
  | _ => false
theorem am_w_newa (X : am_X T cl D cA A p s m args c cc nL own) (harr : ∀ t, t < 4 → Cond.arrayClass (am_aty t) ∈ T) (hd : decode cc pc = .ok (i, len)) (ho : am_ok32 a i len = true) (h : am_snewa a (pc + len) L S μ = some (pc', L', S', μ')) (I : am_I ft μ L S) (hroom : cells + (μ'.1.length - μ.1.length) ≤ R.cells ∧ slots + (am_sl μ' - am_sl μ) ≤ R.slots) (hl : am_lv ad ls nL L) (hP : va_P D cl (am_ws ft ad cA μ) H) (hD : va_D A (am_ws ft ad cA μ)) (hS : va_S A s.heap H locs) (kk : am_Kk ft p l e R s m args below meth c D cl cA A nL ad μ cells slots Q pc' L' S' μ') : W p l e R s m args below meth c H locs cells slots Q (F0 m pc ls (S.map (am_rv ad))) := by
  obtain ⟨hx, hb, -, hown, hts, hK, hA⟩ := X
  unfold am_ok32 at ho
  split at ho
  next t =>
    simp only [Bool.and_eq_true, decide_eq_true_eq] at ho
    obtain ⟨rfl, hty, ha⟩ := ho
    unfold am_snewa at h
    split at h
    next n S1 =>
      split at h
      next hc =>
        obtain ⟨hlt, -, h0, h1⟩ := hc
        simp only [Option.some.injEq, Prod.mk.injEq] at h
        obtain ⟨rfl, rfl, rfl, rfl⟩ := h
        have rn : -2147483648 ≤ n ∧ n < 2147483648 := I.top
        have e1 : (μ.1 ++ [(a, n.toNat, [])]).length - μ.1.length = 1 := by simp
        have e2 : am_sl (μ.1 ++ [(a, n.toNat, [])], μ.2.1, am_row μ.2.2 μ.1.length (fun _ => 0)) - am_sl μ = n.toNat := by rw [am_sl_new]; show am_sl μ + n.toNat - am_sl μ = n.toNat; omega
        rw [e2] at hroom
        have hroom1 : cells + 1 ≤ R.cells := by have := hroom.1; dsimp only at this; rw [e1] at this; exact this
        have hcl : (Int32.ofInt n).toNatClampNeg = n.toNat := am_ocl rn
        have hneg : ¬ Int32.ofInt n < 0 := by rw [← am_o0, am_olt rn (by omega)]; omega
        have hw := fun q => am_ws_new (ft := ft) (ad := ad) (cA := cA) I.1 hlt (a, n.toNat, []) q
        have hext : ∀ q, am_ext μ.1.length ad (fun i => if i = μ.1.length then q else ad i) := fun q k hk => if_neg (by omega)
        have fin : ∀ (q : Nat) (H1 : Heap), va_P D cl (am_ws ft ad cA μ ++ [(q, am_cell ft (fun i => if i = μ.1.length then q else ad i) cA (fun _ => 0) (a, n.toNat, []))]) H1 → va_D A (am_ws ft ad cA μ ++ [(q, am_cell ft (fun i => if i = μ.1.length then q else ad i) cA (fun _ => 0) (a, n.toNat, []))]) → va_S A s.heap H1 locs → W p l e R s m args below meth c H1 locs (cells + 1) (slots + n.toNat) Q (F0 m (pc + 2) ls (.ref q :: S1.map (am_rv ad))) := by
          intro q H1 q1 q2 q3
          rw [← hw] at q1 q2
          have K := kk _ H1 _ ls (hext q) (hl.ext (hext q) I.2.1) q1 q2 q3
          refine W.cs ?_ ?_ (W.eq ?_ K)
          · dsimp only
            rw [e1]
          · rw [e2]
          · show F0 m (pc + 2) ls (.ref q :: S1.map (am_rv ad)) = F0 m (pc + 2) ls (.ref (if μ.1.length = μ.1.length then q else ad μ.1.length) :: S1.map (am_rv _))
            rw [if_pos rfl, am_rvs_ext (hext q) I.pop.2.2]
        have same : ∀ (tb : Nat) (ty : FieldType) (cB : ClassId), (am_tys cA)[tb]? = some (cA tb, ty) → (ty = .int ∨ ty = .byte ∨ ty = .boolean ∨ ty = .long) → va_K D cl (am_tys cA ++ [(cB, ty)]) s → cB = cA tb := by
          intro tb ty cB h1 h2 h3
          have g1 := (hK.2 tb _ h1).2
          have g2 := (h3.2 4 (cB, ty) rfl).2
          rcases h2 with rfl | rfl | rfl | rfl
          · exact Option.some.inj ((show s.vm.findClass _ = some cB from g2).symm.trans g1)
          · exact Option.some.inj ((show s.vm.findClass _ = some cB from g2).symm.trans g1)
          · exact Option.some.inj ((show s.vm.findClass _ = some cB from g2).symm.trans g1)
          · exact Option.some.inj ((show s.vm.findClass _ = some cB from g2).symm.trans g1)
        have harr' : (Cond.arrayClass (newarray.typeOf t)).before args s = true := by rw [hty]; exact hts _ (harr a ha)
        have hbytes : ∀ k, k ≤ 8 → n.toNat * k ≤ 536870912 := fun k hk => by
          have : n.toNat * k ≤ 100000 * 8 := Nat.mul_le_mul (by omega) hk
          omega
        rcases (by omega : a = 0 ∨ a = 1 ∨ a = 2 ∨ a = 3) with rfl | rfl | rfl | rfl
        · refine va_newa (ty := .int) (a0 := (n.toNat, .inl (fun _ => Int32.ofInt 0))) hx hb harr' hty hK hP hD hS hA (fun cB => rfl) hneg hcl (hbytes 4 (by omega)) hroom1 hroom.2 hd (fun q cB H1 g1 q1 q2 q3 => ?_)
          rw [same 0 .int cB rfl (Or.inl rfl) g1] at q1 q2
          exact fin q H1 (by rw [am_cell_a (by omega)]; exact q1) (by rw [am_cell_a (by omega)]; exact q2) q3
        · refine va_newa (ty := .byte) (a0 := (n.toNat, .inl (fun _ => Int32.ofInt 0))) hx hb harr' hty hK hP hD hS hA (fun cB => rfl) hneg hcl (hbytes 1 (by omega)) hroom1 hroom.2 hd (fun q cB H1 g1 q1 q2 q3 => ?_)
          rw [same 1 .byte cB rfl (Or.inr (Or.inl rfl)) g1] at q1 q2
          exact fin q H1 (by rw [am_cell_a (by omega)]; exact q1) (by rw [am_cell_a (by omega)]; exact q2) q3
        · refine va_newa (ty := .boolean) (a0 := (n.toNat, .inl (fun _ => Int32.ofInt 0))) hx hb harr' hty hK hP hD hS hA (fun cB => rfl) hneg hcl (hbytes 1 (by omega)) hroom1 hroom.2 hd (fun q cB H1 g1 q1 q2 q3 => ?_)
          rw [same 2 .boolean cB rfl (Or.inr (Or.inr (Or.inl rfl))) g1] at q1 q2
          exact fin q H1 (by rw [am_cell_a (by omega)]; exact q1) (by rw [am_cell_a (by omega)]; exact q2) q3
        · refine va_newa (ty := .long) (a0 := (n.toNat, .inr (.inl (fun _ => Int64.ofInt 0)))) hx hb harr' hty hK hP hD hS hA (fun cB => rfl) hneg hcl (hbytes 8 (by omega)) hroom1 hroom.2 hd (fun q cB H1 g1 q1 q2 q3 => ?_)
          rw [same 3 .long cB rfl (Or.inr (Or.inr (Or.inr rfl))) g1] at q1 q2
          exact fin q H1 (by rw [am_cell_l]; exact q1) (by rw [am_cell_l]; exact q2) q3
      next => cases h
    next => cases h
  next => cases ho
theorem am_cats_rv {S : List am_V} : ((S.map (am_rv ad)).map fun v => v.category).sum = am_cats S := by
  unfold am_cats
  rw [List.map_map]
  congr 1
  apply List.map_congr_left
  intro v _
  exact am_cat_rv ad v
theorem am_cp_i {f g : Nat → Int} {sp dp n : Nat} : (fun i => Int32.ofInt (am_cp f g sp dp n i)) = va_cpy (fun i => Int32.ofInt (f i)) (fun i => Int32.ofInt (g i)) sp dp n := by
  funext i
  unfold am_cp va_cpy
  split <;> rfl
theorem am_cp_l {f g : Nat → Int} {sp dp n : Nat} : (fun i => Int64.ofInt (am_cp f g sp dp n i)) = va_cpy (fun i => Int64.ofInt (f i)) (fun i => Int64.ofInt (g i)) sp dp n := by
  funext i
  unfold am_cp va_cpy
  split <;> rfl
/-- words that all methods share -/
def am_glOk (T : List Cond) : Prop := (∀ t, t < 4 → Cond.arrayClass (am_aty t) ∈ T) ∧ Cond.native arraycopyName ∈ T ∧ Cond.static arraycopyName ∈ T ∧ Cond.initialized "java/lang/System" ∈ T ∧ Cond.initialized "java/lang/Math" ∈ T ∧ (Cond.static Lib.Math.max.name ∈ T ∧ Cond.code Lib.Math.max.name Lib.Math.max.code 2 (some .int) ∈ T) ∧ (Cond.static Lib.Math.min.name ∈ T ∧ Cond.code Lib.Math.min.name Lib.Math.min.code 2 (some .int) ∈ T) ∧ (Cond.static Lib.Math.abs.name ∈ T ∧ Cond.code Lib.Math.abs.name Lib.Math.abs.code 1 (some .int) ∈ T) ∧ Cond.instanceMethod Lib.objectInit ∈ T ∧ Cond.code Lib.objectInit ⟨#[0xb1]⟩ 1 none ∈ T
def am_ok33 (tk : Nat → Option Cond) (own : String) (fr lo a d : Nat) (i : Instr) (len : Nat) : Bool := match i with
  | .invokestatic k => decide (len = 3) && (decide (tk d = some (.methodLink own k arraycopyName)) && (decide (1 ≤ fr) && (decide (26 ≤ lo) && decide (a = 0 ∨ a = 3))))
  | _ => false
theorem am_w_copy {d fr lo : Nat} (htk : ∀ (d : Nat) (w : Cond), tk d = some w → w ∈ T) (X : am_X T cl D cA A p s m args c cc nL own) (hgl : am_glOk T) (hR : R.frames = fr ∧ R.locals = lo) (hd : decode cc pc = .ok (i, len)) (ho : am_ok33 tk own fr lo a d i len = true) (h : am_scopy a (pc + len) L S μ = some (pc', L', S', μ')) (I : am_I ft μ L S) (hl : am_lv ad ls nL L) (hP : va_P D cl (am_ws ft ad cA μ) H) (hD : va_D A (am_ws ft ad cA μ)) (hS : va_S A s.heap H locs) (kk : am_Kk ft p l e R s m args below meth c D cl cA A nL ad μ cells slots Q pc' L' S' μ') : W p l e R s m args below meth c H locs cells slots Q (F0 m pc ls (S.map (am_rv ad))) := by
  obtain ⟨hx, hb, hml, hown, hts, hK, hA⟩ := X
  unfold am_ok33 at ho
  split at ho
  next kx =>
    simp only [Bool.and_eq_true, decide_eq_true_eq] at ho
    obtain ⟨rfl, hlk, hf, hlo, ha⟩ := ho
    unfold am_scopy at h
    split at h
    next n dp k1 sp k0 S1 =>
      split at h
      next kd0 N0 r0 kd1 N1 r1 h0 h1 =>
        split at h
        next hc =>
          obtain ⟨e0, e1, -, hn, hdp, hsp, hb0, hb1, hcat⟩ := hc
          simp only [Option.some.injEq, Prod.mk.injEq] at h
          obtain ⟨rfl, rfl, rfl, rfl⟩ := h
          subst e0
          subst e1
          have rn : -2147483648 ≤ n ∧ n < 2147483648 := I.top
          have rdp : -2147483648 ≤ dp ∧ dp < 2147483648 := I.pop.top
          have rsp : -2147483648 ≤ sp ∧ sp < 2147483648 := I.pop.pop.pop.top
          have cn : (Int32.ofInt n).toNatClampNeg = n.toNat := am_ocl rn
          have cdp : (Int32.ofInt dp).toNatClampNeg = dp.toNat := am_ocl rdp
          have csp : (Int32.ofInt sp).toNatClampNeg = sp.toNat := am_ocl rsp
          have nn : ¬ Int32.ofInt n < 0 := by rw [← am_o0, am_olt rn (by omega)]; omega
          have ndp : ¬ Int32.ofInt dp < 0 := by rw [← am_o0, am_olt rdp (by omega)]; omega
          have nsp : ¬ Int32.ofInt sp < 0 := by rw [← am_o0, am_olt rsp (by omega)]; omega
          have hw0 := am_ws_get (ft := ft) (ad := ad) (cA := cA) h0
          have hw1 := am_ws_get (ft := ft) (ad := ad) (cA := cA) h1
          have hu := am_ws_row (ft := ft) (ad := ad) (cA := cA) (f := am_cp (μ.2.2 k0) (μ.2.2 k1) sp.toNat dp.toNat n.toNat) h1
          have hms : c.maxLocals = ls.size := by rw [hml]; exact hl.1.1.symm
          have hlo2 : ((S1.map (am_rv ad)).map fun v => v.category).sum + (nativeFrameWords "java/lang/System" "arraycopy" 5 + 11) ≤ R.locals := by
            rw [am_cats_rv, hR.2, show nativeFrameWords "java/lang/System" "arraycopy" 5 = 7 by decide]
            omega
          rcases ha with ha | ha
          · subst ha
            rw [am_cell_a (by omega)] at hw0 hw1
            rw [am_cell_a (by omega), am_cp_i] at hu
            refine va_copyi (ty := .int) hx hb hms hown (hts _ (htk _ _ hlk)) (hts _ hgl.2.1) (hts _ hgl.2.2.1) (hts _ hgl.2.2.2.1) hK hP hD hS k0 k1 0 0 hw0 hw1 rfl rfl rfl nsp ndp nn (by rw [csp, cn]; omega) (by rw [cdp, cn]; omega) (fun _ _ => rfl) (by omega) hlo2 hd (fun H1 locs1 q1 q2 q3 => ?_)
            rw [csp, cdp, cn, ← hu] at q1 q2
            exact kk.keep hl q1 q2 q3
          · subst ha
            rw [am_cell_l] at hw0 hw1
            rw [am_cell_l, am_cp_l] at hu
            refine va_copyl hx hb hms hown (hts _ (htk _ _ hlk)) (hts _ hgl.2.1) (hts _ hgl.2.2.1) (hts _ hgl.2.2.2.1) hK hP hD hS k0 k1 3 3 hw0 hw1 rfl rfl rfl nsp ndp nn (by rw [csp, cn]; omega) (by rw [cdp, cn]; omega) (fun _ _ => rfl) (by omega) hlo2 hd (fun H1 locs1 q1 q2 q3 => ?_)
            rw [csp, cdp, cn, ← hu] at q1 q2
            exact kk.keep hl q1 q2 q3
        next => cases h
      next => cases h
    next => cases h
  next => cases ho
def am_mname (a : Nat) : MethodName := match a with
  | 0 => Lib.Math.max.name
  | 1 => Lib.Math.min.name
  | _ => Lib.Math.abs.name
def am_ok34 (tk : Nat → Option Cond) (own : String) (fr lo a d : Nat) (i : Instr) (len : Nat) : Bool := match i with
  | .invokestatic k => decide (len = 3) && (decide (tk d = some (.methodLink own k (am_mname a))) && (decide (1 ≤ fr) && decide (26 ≤ lo)))
  | _ => false
theorem am_w_math {d fr lo : Nat} (htk : ∀ (d : Nat) (w : Cond), tk d = some w → w ∈ T) (X : am_X T cl D cA A p s m args c cc nL own) (hgl : am_glOk T) (hR : R.frames = fr ∧ R.locals = lo) (hc0 : cells ≤ R.cells ∧ slots ≤ R.slots) (hd : decode cc pc = .ok (i, len)) (ho : am_ok34 tk own fr lo a d i len = true) (h : am_smath a (pc + len) L S μ = some (pc', L', S', μ')) (I : am_I ft μ L S) (hl : am_lv ad ls nL L) (hP : va_P D cl (am_ws ft ad cA μ) H) (hD : va_D A (am_ws ft ad cA μ)) (hS : va_S A s.heap H locs) (kk : am_Kk ft p l e R s m args below meth c D cl cA A nL ad μ cells slots Q pc' L' S' μ') : W p l e R s m args below meth c H locs cells slots Q (F0 m pc ls (S.map (am_rv ad))) := by
  obtain ⟨hx, hb, hml, hown, hts, hK, hA⟩ := X
  unfold am_ok34 at ho
  split at ho
  next kx =>
    simp only [Bool.and_eq_true, decide_eq_true_eq] at ho
    obtain ⟨rfl, hlk, hf, hlo⟩ := ho
    have hms : c.maxLocals = ls.size := by rw [hml]; exact hl.1.1.symm
    unfold am_smath at h
    split at h
    next y x S1 =>
      split at h
      next hcat =>
        simp only [Option.some.injEq, Prod.mk.injEq] at h
        obtain ⟨rfl, rfl, rfl, rfl⟩ := h
        have rx : -2147483648 ≤ x ∧ x < 2147483648 := I.pop.top
        have ry : -2147483648 ≤ y ∧ y < 2147483648 := I.top
        have hlo2 : ((S1.map (am_rv ad)).map fun v => v.category).sum + 13 ≤ R.locals := by rw [am_cats_rv, hR.2]; omega
        have K : W p l e R s m args below meth c H locs cells slots Q (F0 m (pc + 3) ls (.int (Int32.ofInt (if x < y then y else x)) :: S1.map (am_rv ad))) := kk.same hl hP hD hS
        have ev : (if Int32.ofInt x < Int32.ofInt y then Int32.ofInt y else Int32.ofInt x) = Int32.ofInt (if x < y then y else x) := by
          simp only [am_olt rx ry]
          split <;> rfl
        exact va_mmax hx hb hms hown (hts _ (htk _ _ hlk)) (hts _ hgl.2.2.2.2.2.1.1) (hts _ hgl.2.2.2.2.1) (hts _ hgl.2.2.2.2.2.1.2) (by omega) hlo2 hc0.1 hc0.2 hd (by rw [ev]; exact K)
      next => cases h
    next y x S1 =>
      split at h
      next hcat =>
        simp only [Option.some.injEq, Prod.mk.injEq] at h
        obtain ⟨rfl, rfl, rfl, rfl⟩ := h
        have rx : -2147483648 ≤ x ∧ x < 2147483648 := I.pop.top
        have ry : -2147483648 ≤ y ∧ y < 2147483648 := I.top
        have hlo2 : ((S1.map (am_rv ad)).map fun v => v.category).sum + 13 ≤ R.locals := by rw [am_cats_rv, hR.2]; omega
        have K : W p l e R s m args below meth c H locs cells slots Q (F0 m (pc + 3) ls (.int (Int32.ofInt (if y < x then y else x)) :: S1.map (am_rv ad))) := kk.same hl hP hD hS
        have ev : (if Int32.ofInt y < Int32.ofInt x then Int32.ofInt y else Int32.ofInt x) = Int32.ofInt (if y < x then y else x) := by
          simp only [am_olt ry rx]
          split <;> rfl
        exact va_mmin hx hb hms hown (hts _ (htk _ _ hlk)) (hts _ hgl.2.2.2.2.2.2.1.1) (hts _ hgl.2.2.2.2.1) (hts _ hgl.2.2.2.2.2.2.1.2) (by omega) hlo2 hc0.1 hc0.2 hd (by rw [ev]; exact K)
      next => cases h
    next x S1 =>
      split at h
      next hcat =>
        simp only [Option.some.injEq, Prod.mk.injEq] at h
        obtain ⟨rfl, rfl, rfl, rfl⟩ := h
        have rx : -2147483648 ≤ x ∧ x < 2147483648 := I.top
        have hlo2 : ((S1.map (am_rv ad)).map fun v => v.category).sum + 13 ≤ R.locals := by rw [am_cats_rv, hR.2]; omega
        have K : W p l e R s m args below meth c H locs cells slots Q (F0 m (pc + 3) ls (.int (Int32.ofInt (if 0 ≤ x then x else w32 (0 - x))) :: S1.map (am_rv ad))) := kk.same hl hP hD hS
        have ev : (if 0 ≤ Int32.ofInt x then Int32.ofInt x else 0 - Int32.ofInt x) = Int32.ofInt (if 0 ≤ x then x else w32 (0 - x)) := by
          have e0 : (0 ≤ Int32.ofInt x) ↔ 0 ≤ x := by rw [← am_o0, am_ole (by omega) rx]
          simp only [e0]
          split
          · rfl
          · rw [am_osub]; rfl
        exact va_mabs hx hb hms hown (hts _ (htk _ _ hlk)) (hts _ hgl.2.2.2.2.2.2.2.1.1) (hts _ hgl.2.2.2.2.1) (hts _ hgl.2.2.2.2.2.2.2.1.2) (by omega) hlo2 hc0.1 hc0.2 hd (by rw [ev]; exact K)
      next => cases h
    next => cases h
  next => cases ho
def am_ok37 (tk : Nat → Option Cond) (own : String) (fr lo d : Nat) (i : Instr) (len : Nat) : Bool := match i with
  | .invokespecial k => decide (len = 3) && (decide (tk d = some (.methodLink own k Lib.objectInit)) && (decide (1 ≤ fr) && decide (26 ≤ lo)))
  | _ => false
theorem am_w_oinit {d fr lo : Nat} (htk : ∀ (d : Nat) (w : Cond), tk d = some w → w ∈ T) (X : am_X T cl D cA A p s m args c cc nL own) (hgl : am_glOk T) (hR : R.frames = fr ∧ R.locals = lo) (hd : decode cc pc = .ok (i, len)) (ho : am_ok37 tk own fr lo d i len = true) (h : am_soinit (pc + len) L S μ = some (pc', L', S', μ')) (hl : am_lv ad ls nL L) (hP : va_P D cl (am_ws ft ad cA μ) H) (hD : va_D A (am_ws ft ad cA μ)) (hS : va_S A s.heap H locs) (kk : am_Kk ft p l e R s m args below meth c D cl cA A nL ad μ cells slots Q pc' L' S' μ') : W p l e R s m args below meth c H locs cells slots Q (F0 m pc ls (S.map (am_rv ad))) := by
  obtain ⟨hx, hb, hml, hown, hts, hK, hA⟩ := X
  unfold am_ok37 at ho
  split at ho
  next kx =>
    simp only [Bool.and_eq_true, decide_eq_true_eq] at ho
    obtain ⟨rfl, hlk, hf, hlo⟩ := ho
    unfold am_soinit at h
    split at h
    next k S1 =>
      split at h
      next hcat =>
        simp only [Option.some.injEq, Prod.mk.injEq] at h
        obtain ⟨rfl, rfl, rfl, rfl⟩ := h
        refine W.objInit hx hb hown (hts _ (htk _ _ hlk)) (hts _ hgl.2.2.2.2.2.2.2.2.1) (hts _ hgl.2.2.2.2.2.2.2.2.2) rfl (by rw [hml]; exact hl.1.1) rfl hd (by omega) ?_ (kk.same hl hP hD hS)
        show 2 * 0 + ((S1.map (am_rv ad)).map fun v => v.category).sum + 12 ≤ R.locals
        rw [am_cats_rv, hR.2]
        omega
      next => cases h
    next => cases h
  next => cases ho
end WM2
end
section
/-! String.checkIndex, with the static that is only carried -/
def am_yp : MethodName := ⟨"jdk/internal/util/Preconditions", "checkIndex", "(IILjava/util/function/BiFunction;)I"⟩
def am_yc : MethodName := ⟨"java/lang/String", "checkIndex", "(II)V"⟩
def am_ckOk (T : List Cond) : Prop := Cond.code am_yc prog_18_method_155_code 2 none ∈ T ∧ Cond.static am_yc ∈ T ∧ Cond.initialized "java/lang/String" ∈ T ∧ Cond.code am_yp prog_23_method_11_code 3 (some .int) ∈ T ∧ Cond.static am_yp ∈ T ∧ Cond.initialized "jdk/internal/util/Preconditions" ∈ T ∧ Cond.fieldLink "java/lang/String" 1053 "jdk/internal/util/Preconditions" "SIOOBE_FORMATTER" "Ljava/util/function/BiFunction;" ∈ T ∧ Cond.methodLink "java/lang/String" 1059 am_yp ∈ T
theorem dp_0 : decode prog_23_method_11_code 0 = .ok (.iload_n 0, 1) := by decide +kernel
theorem dp_1 : decode prog_23_method_11_code 1 = .ok (.ifCond .lt 8, 3) := by decide +kernel
theorem dp_4 : decode prog_23_method_11_code 4 = .ok (.iload_n 0, 1) := by decide +kernel
theorem dp_5 : decode prog_23_method_11_code 5 = .ok (.iload_n 1, 1) := by decide +kernel
theorem dp_6 : decode prog_23_method_11_code 6 = .ok (.if_icmp .lt 10, 3) := by decide +kernel
theorem dp_16 : decode prog_23_method_11_code 16 = .ok (.iload_n 0, 1) := by decide +kernel
theorem dp_17 : decode prog_23_method_11_code 17 = .ok (.ireturn, 1) := by decide +kernel
theorem dc_0 : decode prog_18_method_155_code 0 = .ok (.iload_n 0, 1) := by decide +kernel
theorem dc_1 : decode prog_18_method_155_code 1 = .ok (.iload_n 1, 1) := by decide +kernel
theorem dc_2 : decode prog_18_method_155_code 2 = .ok (.getstatic 1053, 3) := by decide +kernel
theorem dc_5 : decode prog_18_method_155_code 5 = .ok (.invokestatic 1059, 3) := by decide +kernel
theorem dc_8 : decode prog_18_method_155_code 8 = .ok (.pop, 1) := by decide +kernel
theorem dc_9 : decode prog_18_method_155_code 9 = .ok (.return_, 1) := by decide +kernel
/-- the heap stays, the answer is v -/
def am_Qs (v : Option Value) : Array Value → State → Outcome → State → Prop := fun _ st o t => o = .returned v ∧ t.heap = st.heap
theorem am_call0 {p : Program} {l : Launch} {e : Env} {R : Room} {s : State} {m : MethodId} {args : Array Value} {below : List Frame} {meth : Method} {c : Code} {H : Heap} {locs : List Loc} {cells slots pc : Nat} {Q : State → Prop} {ls : Array Slot} {st0 rest : List Value} {v : Option Value} {aa : Array Value} (hr : va_Run p l e R s m args below meth c H locs cells slots 0 0 (F0 m pc ls st0) rest (am_Qs v aa) (fun _ => False)) (kk : W p l e R s m args below meth c H locs cells slots Q (F0 m (pc + 3) ls (v.toList ++ rest))) : W p l e R s m args below meth c H locs cells slots Q (F0 m pc ls st0) := by
  intro T hT X
  obtain ⟨w, st₀, t, T', L, h0, X', hL, e1, e2, ⟨hv, hh⟩, st⟩ := hr T hT X
  have hv' : w = v := by injection hv
  subst hv'
  have hL0 : L = [] := List.eq_nil_iff_forall_not_mem.mpr hL
  subst hL0
  rw [List.append_nil] at X'
  obtain ⟨t2, a1, b1⟩ := kk T' (by rw [e1, hh, h0]) X'
  exact ⟨t2, st t2 a1, b1⟩
theorem am_cp_met {l : Launch} {T : List Cond} {i n : Int32} {v : Value} (hcv : v.category = 1) (h0 : ¬ i < 0) (h1 : i < n) : Met l am_yp (Cond.code am_yp prog_23_method_11_code 3 (some .int) :: T) ({ frames := 0, cells := 0, slots := 0, locals := 0 } : Room) (fun a _ => a = ([.int i, .int n, v] : List Value).toArray) (am_Qs (some (.int i))) 0 0 (fun _ => False) := by
  refine Met.ofW (cc := prog_23_method_11_code) (maxL := 3) (ret := some .int) (by decide) rfl ?_
  intro p e s m args below meth c s₁ B hml hv
  subst hv
  have hx := B.exec
  have hb := B.bytes
  have hr := B.returns
  have hlocks := B.notSynchronized
  have hsl : (lg_sl ([.int i, .int n, v] : List Value)).length ≤ 3 := by
    match v, hcv with
    | .int _, _ => exact Nat.le_refl 3
    | .float _, _ => exact Nat.le_refl 3
    | .null, _ => exact Nat.le_refl 3
    | .ref _, _ => exact Nat.le_refl 3
    | .retAddr _, _ => exact Nat.le_refl 3
  have hl := lv_entry ([.int i, .int n, v] : List Value) (n := 3) hsl
  rw [lg_entry_eq]
  generalize (lg_sl ([.int i, .int n, v] : List Value) ++ List.replicate (3 - (lg_sl ([.int i, .int n, v] : List Value)).length) Slot.unset).toArray = ls at hl ⊢
  have hl0 : ls[0]? = some (.val (.int i)) := lv_at hl 0 rfl
  have hl1 : ls[1]? = some (.val (.int n)) := lv_at hl 1 rfl
  refine lv_iload_n hx hb dp_0 rfl hl0 ?_
  refine lv_if_lt (tgt := 9) hx hb dp_1 (by decide) (fun z => absurd z h0) (fun _ => ?_)
  refine lv_iload_n hx hb dp_4 rfl hl0 ?_
  refine lv_iload_n hx hb dp_5 rfl hl1 ?_
  refine lv_icmp_lt (tgt := 16) hx hb dp_6 (by decide) (fun _ => ?_) (fun z => absurd h1 z)
  refine lv_iload_n hx hb dp_16 rfl hl0 ?_
  exact W.iret hx hb hr (fun t ht _ => ⟨rfl, ht⟩) (fun q hq => by cases hq) dp_17
theorem am_cc_met {l : Launch} {T : List Cond} (hgood : ∀ w ∈ T, goodWord w = true) (hk : am_ckOk T) {i n : Int32} (h0 : ¬ i < 0) (h1 : i < n) : Met l am_yc (Cond.code am_yc prog_18_method_155_code 2 none :: T) ({ frames := 1, cells := 0, slots := 0, locals := 22 } : Room) (fun a U => a = ([.int i, .int n] : List Value).toArray ∧ va_Zq "jdk/internal/util/Preconditions" "SIOOBE_FORMATTER" "Ljava/util/function/BiFunction;" (fun q => U.heap.size ≤ q) U U.heap) (am_Qs none) 0 0 (fun _ => False) := by
  refine Met.ofW (cc := prog_18_method_155_code) (maxL := 2) (ret := none) (by decide) rfl ?_
  intro p e s m args below meth c s₁ B hml hv
  obtain ⟨rfl, hz⟩ := hv
  have hx := B.exec
  have hb := B.bytes
  have hr := B.returns
  have hlocks := B.notSynchronized
  have hts0 := atoms_spec (ws := Cond.code am_yc prog_18_method_155_code 2 none :: T) B.pre
  have hts : ∀ w ∈ T, w.before ([.int i, .int n] : List Value).toArray s = true := fun w hw => hts0 w (List.mem_cons_of_mem _ hw)
  have hown : s.vm.findClass "java/lang/String" = some m.cls := findClass_of_methodNamed B.named
  have hl := lv_entry ([.int i, .int n] : List Value) (n := 2) (Nat.le_of_ble_eq_true rfl)
  rw [lg_entry_eq]
  generalize (lg_sl ([.int i, .int n] : List Value) ++ List.replicate (2 - (lg_sl ([.int i, .int n] : List Value)).length) Slot.unset).toArray = ls at hl ⊢
  have hl0 : ls[0]? = some (.val (.int i)) := lv_at hl 0 rfl
  have hl1 : ls[1]? = some (.val (.int n)) := lv_at hl 1 rfl
  have hS : va_S (fun q => s.heap.size ≤ q) s.heap s.heap [] := va_S.rf
  have hG : GoodIn T (Cond.code am_yp prog_23_method_11_code 3 (some .int) :: T) := fun w hw => by
    rcases List.mem_cons.mp hw with rfl | hw
    · exact ⟨hk.2.2.2.1, good_of_word (hgood _ hk.2.2.2.1)⟩
    · exact ⟨hw, good_of_word (hgood _ hw)⟩
  obtain ⟨v, hcv, hv⟩ : ∃ v : Value, v.category = 1 ∧ va_Z "jdk/internal/util/Preconditions" "SIOOBE_FORMATTER" "Ljava/util/function/BiFunction;" v (fun q => s.heap.size ≤ q) s s.heap := by
    rcases hz with h | ⟨t, h⟩
    · exact ⟨.null, rfl, h⟩
    · exact ⟨.ref t, rfl, h⟩
  refine lv_iload_n hx hb dc_0 rfl hl0 ?_
  refine lv_iload_n hx hb dc_1 rfl hl1 ?_
  refine va_gets hx hb hv hS hown (hts _ hk.2.2.2.2.2.2.1) (fun x z => z) dc_2 ?_
  have cw : CallB (headSpec (Cond.code am_yc prog_18_method_155_code 2 none :: T) ({ frames := 1, cells := 0, slots := 0, locals := 22 } : Room)).room s ([.int i, .int n] : List Value).toArray "java/lang/String" 1059 am_yp prog_23_method_11_code 3 (some .int) (Cond.code am_yp prog_23_method_11_code 3 (some .int) :: T) ({ frames := 0, cells := 0, slots := 0, locals := 0 } : Room) 0 0 3 ∧ (Cond.static am_yp).before ([.int i, .int n] : List Value).toArray s = true :=
    ⟨callB_of 3 hts hG rfl rfl rfl (hts _ hk.2.2.2.2.2.1) (hts _ hk.2.2.2.2.2.2.2) ⟨by decide, by decide, by decide +kernel⟩ ⟨Nat.le_refl 1, Nat.le_refl 22⟩, hts _ hk.2.2.2.2.1⟩
  have run := va_runS (H := s.heap) (locs := []) (cells := 0) (slots := 0) (below := below) (e := e) (meth := meth) (g := F0 m 5 ls [v, .int n, .int i]) (As := [.int i, .int n, v]) (rest := []) (Ts := T) ⟨hx, hb, hml, hown, hts⟩ (am_cp_met (l := l) (T := T) hcv h0 h1) cw ⟨fun _ _ _ _ z => z, fun _ _ _ => rfl⟩ rfl rfl hl.1 rfl (lv_room (by decide)) dc_5 ⟨Nat.le_refl _, Nat.le_refl _⟩
  refine am_call0 run ?_
  refine lv_pop hx hb dc_8 rfl ?_
  exact W.vret hx hb hr (fun t ht _ => ⟨rfl, ht⟩) (fun q hq => by cases hq) dc_9
def am_ok35 (tk : Nat → Option Cond) (own : String) (fr lo d : Nat) (i : Instr) (len : Nat) : Bool := match i with
  | .invokestatic k => decide (len = 3) && (decide (tk d = some (.methodLink own k am_yc)) && (decide (2 ≤ fr) && decide (43 ≤ lo)))
  | _ => false
theorem am_w_chk {ft : List (List Nat)} {p : Program} {l : Launch} {e : Env} {R : Room} {s : State} {m : MethodId} {args : Array Value} {below : List Frame} {meth : Method} {c : Code} {D : va_G} {cl : List vw_C} {cA : Nat → ClassId} {A : Nat → Prop} {nL : Nat} {ad : Nat → Nat} {μ μ' : am_M} {cells slots : Nat} {Q : State → Prop} {pc pc' len : Nat} {L L' : am_L} {S S' : List am_V} {T : List Cond} {tk : Nat → Option Cond} {cc : ByteArray} {own : String} {H : Heap} {locs : List Loc} {ls : Array Slot} {i : Instr} {strs : List (String × Nat × String)} {NT Tg : List Cond} {d fr lo : Nat} (htk : ∀ (d : Nat) (w : Cond), tk d = some w → w ∈ T) (X : am_X T cl D cA A p s m args c cc nL own) (hsub : ∀ w ∈ Tg, w ∈ T) (hgood : ∀ w ∈ Tg, goodWord w = true) (hk : am_ckOk Tg) (hg : am_GL NT strs ad A s) (hR : R.frames = fr ∧ R.locals = lo) (hc0 : cells ≤ R.cells ∧ slots ≤ R.slots) (hd : decode cc pc = .ok (i, len)) (ho : am_ok35 tk own fr lo d i len = true) (h : am_schk (pc + len) L S μ = some (pc', L', S', μ')) (I : am_I ft μ L S) (hl : am_lv ad ls nL L) (hP : va_P D cl (am_ws ft ad cA μ) H) (hD : va_D A (am_ws ft ad cA μ)) (hS : va_S A s.heap H locs) (kk : am_Kk ft p l e R s m args below meth c D cl cA A nL ad μ cells slots Q pc' L' S' μ') : W p l e R s m args below meth c H locs cells slots Q (F0 m pc ls (S.map (am_rv ad))) := by
  obtain ⟨hx, hb, hml, hown, hts0, hK, hA⟩ := X
  have hts : ∀ w ∈ Tg, w.before args s = true := fun w hw => hts0 w (hsub w hw)
  unfold am_ok35 at ho
  split at ho
  next kx =>
    simp only [Bool.and_eq_true, decide_eq_true_eq] at ho
    obtain ⟨rfl, hlk, hf, hlo⟩ := ho
    unfold am_schk at h
    split at h
    next n x S1 =>
      split at h
      next hc =>
        obtain ⟨h0, h1, hcat⟩ := hc
        simp only [Option.some.injEq, Prod.mk.injEq] at h
        obtain ⟨rfl, rfl, rfl, rfl⟩ := h
        have rn : -2147483648 ≤ n ∧ n < 2147483648 := I.top
        have rx : -2147483648 ≤ x ∧ x < 2147483648 := I.pop.top
        have g0 : ¬ Int32.ofInt x < 0 := by rw [← am_o0, am_olt rx (by omega)]; omega
        have g1 : Int32.ofInt x < Int32.ofInt n := (am_olt rx rn).mpr h1
        have hG : GoodIn Tg (Cond.code am_yc prog_18_method_155_code 2 none :: Tg) := fun w hw => by
          rcases List.mem_cons.mp hw with rfl | hw
          · exact ⟨hk.1, good_of_word (hgood _ hk.1)⟩
          · exact ⟨hw, good_of_word (hgood _ hw)⟩
        have cw : CallB R s args own kx am_yc prog_18_method_155_code 2 none (Cond.code am_yc prog_18_method_155_code 2 none :: Tg) ({ frames := 1, cells := 0, slots := 0, locals := 22 } : Room) 0 0 2 ∧ (Cond.static am_yc).before args s = true :=
          ⟨callB_of 2 hts hG rfl rfl rfl (hts _ hk.2.2.1) (hts0 _ (htk _ _ hlk)) ⟨by decide, by decide, by decide +kernel⟩ ⟨by show 1 + 1 ≤ R.frames; omega, by show 8 + (2 + 11) + 22 ≤ R.locals; omega⟩, hts _ hk.2.1⟩
        have hlt : ∀ q, H.size ≤ q → A q := fun q hq => hA q (Nat.le_trans hS.1 hq)
        have run := va_runS (H := H) (locs := locs) (cells := cells) (slots := slots) (below := below) (e := e) (meth := meth) (g := F0 m pc ls (.int (Int32.ofInt n) :: .int (Int32.ofInt x) :: S1.map (am_rv ad))) (As := [.int (Int32.ofInt x), .int (Int32.ofInt n)]) (rest := S1.map (am_rv ad)) (Ts := Tg) ⟨hx, hb, hml, hown, hts⟩ (am_cc_met (l := l) hgood hk g0 g1) cw
          ⟨fun a U g mk z => ⟨z.1, va_Zq.moved (u := U) (U := U.calling g mk a) (Vm.Alike.refl U.vm) z.2⟩, fun U hU hW => ⟨rfl, by
            have z1 := hg.2.2.2.1.kept (H1 := H) (fun a ha hna => hS.2.1 a ha hna)
            have z2 := z1.narrow (B := fun q => U.heap.size ≤ q) (fun q hq => hlt q (by rw [hU] at hq; exact hq))
            have z3 := z2.moved hW.alike
            rw [hU] at z3 ⊢
            exact z3⟩⟩ rfl rfl hl.1.1 rfl (lv_room (by rw [am_cats_rv]; exact hcat)) hd ⟨hc0.1, hc0.2⟩
        exact am_call0 run (kk.same hl hP hD hS)
      next => cases h
    next => cases h
  next => cases ho
end
section
/-! the whole abstract machine beside the machine -/
theorem am_roc.to {ft : List (List Nat)} {rcl : List (String × (Nat → String × String))} {ncl : Nat} {ad : Nat → Nat} {A B : Nat → Prop} {s U : State} {k : Nat} {c : am_C} {f : Nat → Int} (h : am_roc ft rcl ncl ad A s k c f) (hq : ∀ a : Nat, a < s.heap.size → ¬ A a → U.heap[a]? = s.heap[a]?) (hAB : ∀ q, B q → A q) (hvm : s.vm.Alike U.vm) : am_roc ft rcl ncl ad B U k c f := by
  obtain ⟨h0, h1, h2, h3, h4⟩ := h
  refine ⟨fun z => ((h0 z).kept hq).narrow hAB |>.moved hvm, fun z => ((h1 z).kept hq).narrow hAB |>.moved hvm, h2, h3, fun z => ?_⟩
  obtain ⟨g0, q, g1, g2, g3⟩ := h4 z
  exact ⟨g0, q, g1, (g2.kept hq).narrow hAB |>.moved hvm, fun j hj => ((g3 j hj).kept hq).narrow hAB |>.moved hvm⟩
theorem am_RO.to {ft : List (List Nat)} {rcl : List (String × (Nat → String × String))} {ncl : Nat} {ad : Nat → Nat} {A B : Nat → Prop} {s U : State} {ro : List am_C} {σ : Nat → Nat → Int} (h : am_RO ft rcl ncl ad A s ro σ) (hq : ∀ a : Nat, a < s.heap.size → ¬ A a → U.heap[a]? = s.heap[a]?) (hAB : ∀ q, B q → A q) (hvm : s.vm.Alike U.vm) : am_RO ft rcl ncl ad B U ro σ := fun i c hc => (h i c hc).to hq hAB hvm
/-- links to a nest mate: they are carried beside the other words -/
def am_nest : Cond → Bool
  | .fieldLinkNest .. => true
  | .methodLinkNest .. => true
  | _ => false
theorem am_Nw_warm {w : Cond} (hn : am_nest w = true) {s U : State} (hW : s.WarmedH U.vm) (h : va_Nw w s) : va_Nw w U := by
  cases w <;> first | exact va_Nw.warmF hW h | exact va_Nw.warmM hW h | cases hn
theorem am_nest_tab {w : Cond} (hn : am_nest w = true) : w.onTables = true := by
  cases w <;> first | rfl | cases hn
theorem am_GL.to {NT : List Cond} {strs : List (String × Nat × String)} {ad : Nat → Nat} {A B : Nat → Prop} {s U : State} (h : am_GL NT strs ad A s) (hq : ∀ a : Nat, a < s.heap.size → ¬ A a → U.heap[a]? = s.heap[a]?) (hAB : ∀ q, B q → A q) (hvm : s.vm.Alike U.vm) (hR : ∀ (own : String) (k : Nat) (tx : String) (a : Nat), vk_R own k tx a s → vk_R own k tx a U) (hN : ∀ w ∈ NT, va_Nw w s → va_Nw w U) : am_GL NT strs ad B U :=
  ⟨(h.1.kept hq).narrow hAB |>.moved hvm, (h.2.1.kept hq).narrow hAB |>.moved hvm, fun a q hq' => hR _ _ _ _ (h.2.2.1 a q hq'), (h.2.2.2.1.kept hq).narrow hAB |>.moved hvm, fun w hw => hN w hw (h.2.2.2.2 w hw)⟩
theorem am_GL.ext {NT : List Cond} {strs : List (String × Nat × String)} {ad ad' : Nat → Nat} {A : Nat → Prop} {s : State} {n : Nat} (h : am_GL NT strs ad A s) (hx : am_ext n ad ad') : am_GL NT strs ad' A s := by
  refine ⟨?_, h.2.1, fun a q hq => ?_, h.2.2.2⟩
  · rw [hx 1001 (Or.inr (by omega))]; exact h.1
  · rw [hx (1002 + a) (Or.inr (by omega))]; exact h.2.2.1 a q hq
theorem am_RO.step {ft : List (List Nat)} {rcl : List (String × (Nat → String × String))} {ncl : Nat} {ad ad' : Nat → Nat} {A : Nat → Prop} {s : State} {μ μ' : am_M} (h : am_RO ft rcl ncl ad A s μ.2.1 μ.2.2) (I : am_R ft μ) (G : am_G μ μ') (hx : am_ext μ.1.length ad ad') : am_RO ft rcl ncl ad' A s μ'.2.1 μ'.2.2 := by
  intro i c hc
  rw [G.2.2.1] at hc
  have hd : am_dsc μ (1000 + i) = some c := by
    unfold am_dsc
    rw [if_neg (by omega), Nat.add_sub_cancel_left]
    exact hc
  rw [G.2.2.2 (1000 + i) (by omega)]
  obtain ⟨h0, h1, h2, h3, h4⟩ := h i c hc
  have e := hx (1000 + i) (Or.inr (by omega))
  refine ⟨fun z => by rw [e]; exact h0 z, fun z => by rw [e]; exact h1 z, h2, h3, fun z => ?_⟩
  obtain ⟨g0, q, g1, g2, g3⟩ := h4 z
  refine ⟨g0, q, g1, by rw [e]; exact g2, fun j hj => ?_⟩
  rw [e, am_fv_ext hx (I.2 _ c hd).2 j]
  exact g3 j hj
/-- what a call answers -/
def am_Qc (ft : List (List Nat)) (cl : List vw_C) (D : va_G) (cA : Nat → ClassId) (A : Nat → Prop) (ad : Nat → Nat) (n0 : Nat) (r : Option am_V) (μ' : am_M) : Array Value → State → Outcome → State → Prop := fun _ st oc t => oc = .returned (r.map (am_rv ad)) ∧ (∃ ad', am_ext n0 ad ad' ∧ va_P D cl (am_ws ft ad' cA μ') t.heap ∧ va_D A (am_ws ft ad' cA μ')) ∧ va_F A st t
def am_Pc (NT : List Cond) (ft : List (List Nat)) (cl : List vw_C) (rcl : List (String × (Nat → String × String))) (strs : List (String × Nat × String)) (D : va_G) (cA : Nat → ClassId) (ad : Nat → Nat) (sz : Nat) (vs : List am_V) (μ : am_M) : Array Value → State → Prop := fun v U => v = (vs.map (am_rv ad)).toArray ∧ U.heap.size = sz ∧ va_P D cl (am_ws ft ad cA μ) U.heap ∧ va_D (fun _ => True) (am_ws ft ad cA μ) ∧ va_K D cl (am_tys cA) U ∧ am_RO ft rcl cl.length ad (va_A (am_ws ft ad cA μ) sz) U μ.2.1 μ.2.2 ∧ am_GL NT strs ad (va_A (am_ws ft ad cA μ) sz) U
theorem am_Pc.blind {NT : List Cond} (hnt : ∀ w ∈ NT, am_nest w = true) {ft : List (List Nat)} {cl : List vw_C} {rcl : List (String × (Nat → String × String))} {strs : List (String × Nat × String)} {D : va_G} {cA : Nat → ClassId} {ad : Nat → Nat} {sz : Nat} {vs : List am_V} {μ : am_M} : FrameBlind (am_Pc NT ft cl rcl strs D cA ad sz vs μ) := by
  intro a U g mk h
  obtain ⟨h1, h2, h3, h4, h5, h6, h7⟩ := h
  have hv : U.vm.Alike (U.calling g mk a).vm := Vm.Alike.refl U.vm
  exact ⟨h1, h2, h3, h4, va_K.moved (u := U) (U := U.calling g mk a) (Vm.Alike.refl U.vm) h5, h6.to (U := U.calling g mk a) (fun _ _ _ => rfl) (fun _ z => z) hv, h7.to (U := U.calling g mk a) (fun _ _ _ => rfl) (fun _ z => z) hv (fun own k tx b z => vk_R.same (u := U) (U := U.calling g mk a) rfl z) (fun w hw z => va_Nw.same (am_nest_tab (hnt w hw)) (u := U) (U := U.calling g mk a) rfl z)⟩
section SIM
variable {ft : List (List Nat)} {p : Program} {l : Launch} {e : Env} {R : Room} {s : State} {m : MethodId} {args : Array Value} {below : List Frame} {meth : Method} {c : Code} {D : va_G} {cl : List vw_C} {cA : Nat → ClassId} {A A1 : Nat → Prop} {ad : Nat → Nat} {cells slots mc ms : Nat} {Q : State → Prop} {pc n0 : Nat} {H : Heap} {locs : List Loc} {ls : Array Slot} {st0 rest : List Value} {r : Option am_V} {μ' : am_M} {aa : Array Value}
theorem am_call (hr : va_Run p l e R s m args below meth c H locs cells slots mc ms (F0 m pc ls st0) rest (am_Qc ft cl D cA A1 ad n0 r μ' aa) A1) (hS : va_S A s.heap H locs) (hA : ∀ q, A1 q → A q)
    (kk : ∀ (ad' : Nat → Nat) (H1 : Heap) (locs1 : List Loc), am_ext n0 ad ad' → va_P D cl (am_ws ft ad' cA μ') H1 → va_D A (am_ws ft ad' cA μ') → va_S A s.heap H1 locs1 → W p l e R s m args below meth c H1 locs1 (cells + mc) (slots + ms) Q (F0 m (pc + 3) ls ((r.map (am_rv ad)).toList ++ rest))) : W p l e R s m args below meth c H locs cells slots Q (F0 m pc ls st0) := by
  intro T hT X
  obtain ⟨v, st₀, t, T', L, h0, X', hL, e1, e2, ⟨hv, ⟨ad', g1, g2, g3⟩, hz, hk⟩, st⟩ := hr T hT X
  have hv' : v = r.map (am_rv ad) := by
    injection hv
  subst hv'
  rw [h0] at hz hk
  obtain ⟨t2, a1, b1⟩ := kk ad' T'.heap (locs ++ L) g1 (by rw [e1]; exact g2) (g3.weaken (fun _ _ _ z => hA _ z))
    ⟨Nat.le_trans hS.1 (by rw [e1]; exact hz), fun q h1 h2 => by rw [e1, hk q (Nat.lt_of_lt_of_le h1 hS.1) (fun z => h2 (hA q z))]; exact hS.2.1 q h1 h2, fun q hq => by
      rcases List.mem_append.mp hq with h | h
      · exact hS.2.2 q h
      · exact hA _ (hL q h)⟩ T' rfl X'
  exact ⟨t2, st t2 a1, b1⟩
end SIM
/-- which words a called method needs -/
def am_mOk (T : List Cond) (y : Nat → MethodName) (bc : Nat → ByteArray) (mL : Nat → Nat) (rt : Nat → Option FieldType) (np : Nat → Nat) (a : Nat) : Prop := Cond.code (y a) (bc a) (mL a) (rt a) ∈ T ∧ Cond.initialized (y a).cls ∈ T ∧ (y a).cls ≠ "java/lang/invoke/MethodHandle" ∧ (y a).cls ≠ "java/lang/invoke/VarHandle" ∧ (parseMethodDescriptor (y a).desc).map (fun d => d.parameters.length) = some (np a) ∧ plainName (y a).cls = true
def am_ok29 (tk : Nat → Option Cond) (cl : List vw_C) (rcl : List (String × (Nat → String × String))) (y : Nat → MethodName) (mL np fr lo : Nat → Nat) (rt : Nat → Option FieldType) (mid a b d : Nat) (c : Int) (offs : List Nat) (i : Instr) (len : Nat) : Bool :=
  decide (len = 3) && (decide (fr a + 1 ≤ fr mid) && (decide (8 + (mL a + 11) + lo a ≤ lo mid) && (match offs with
    | [h1, h2, h3] => (match i with
      | .invokevirtual k => decide (c = 0) && (decide (b = np a + 1) && (decide (tk h1 = some (.methodLink (y mid).cls k (y a))) && (decide (tk h2 = some (.instanceMethod (y a))) && (decide (tk h3 = some (.selects (y a).cls (y a) (y a))) && ((match cl[d]? with
          | some (C, _, _) => decide (C = (y a).cls)
          | none => match rcl[d - cl.length]? with
            | some (C, _) => decide (C = (y a).cls)
            | none => false))))))
      | .invokestatic k => decide (c = 1) && (decide (b = np a) && (decide (tk h1 = some (.methodLink (y mid).cls k (y a))) && decide (tk h2 = some (.static (y a)))))
      | .invokespecial k => decide (b = np a + 1) && (decide ((y a).name = "<init>") && (decide (rt a = none) && (decide (tk h2 = some (.instanceMethod (y a))) && ((decide (c = 2) && decide (tk h1 = some (.methodLink (y mid).cls k (y a)))) || (decide (c = 3) && decide (tk h1 = some (.methodLinkNest (y mid).cls k (y a) "EatenToll")))))))
      | _ => false)
    | _ => false)))
def am_ok30 (rt : Option FieldType) (a : Nat) (i : Instr) (len : Nat) : Bool := decide (len = 1) && (match a with
  | 0 => decide (i = .return_) && decide (rt = none)
  | 1 => decide (i = .ireturn) && decide (rt = some .int)
  | 2 => decide (i = .lreturn) && decide (rt = some .long)
  | 3 => decide (i = .ireturn) && decide (rt = some .boolean)
  | 4 => decide (i = .ireturn) && decide (rt = some .byte)
  | 5 => decide (i = .ireturn) && decide (rt = some .char)
  | _ => false)
/-- an entry of the program says what the bytes say -/
def am_chk (ft : List (List Nat)) (tk : Nat → Option Cond) (cl : List vw_C) (rcl : List (String × (Nat → String × String))) (strs : List (String × Nat × String)) (y : Nat → MethodName) (bc : Nat → ByteArray) (mL np fr lo : Nat → Nat) (rt : Nat → Option FieldType) (mid pc : Nat) (e : am_E) : Bool := match e with
  | (op, len, a, b, d, c, _, offs) => match decode (bc mid) pc with
    | .error _ => false
    | .ok (i, l) => decide (l = len) && (match op with
      | 0 => am_ok0 0 a i len
      | 1 => am_ok0 1 a i len
      | 2 => am_ok0 2 a i len
      | 3 => am_ok3 0 a i len
      | 4 => am_ok3 1 a i len
      | 5 => am_ok3 2 a i len
      | 6 => am_ok6 tk (y mid).cls d c i len && (decide (-2147483648 ≤ c) && decide (c < 2147483648))
      | 7 => am_ok7 tk (y mid).cls d c i len && (decide (-9223372036854775808 ≤ c) && decide (c < 9223372036854775808))
      | 8 => am_ok8 a i len
      | 9 => am_ok9 0 i len
      | 10 => am_ok9 1 i len
      | 11 => am_okE .ineg i len
      | 12 => am_ok12 a i len
      | 13 => am_ok13 a i len
      | 14 => am_okE .lcmp i len
      | 15 => am_ok15 a c i len
      | 16 => am_ok16 pc a b i len
      | 17 => am_ok17 pc a b i len
      | 18 => am_ok18 pc b i len
      | 19 => am_ok19 pc b c offs i
      | 20 => am_okE .dup i len
      | 21 => am_okE .dup2 i len
      | 22 => am_okE .pop i len
      | 23 => am_ok23 tk cl rcl (y mid).cls a b d i len
      | 24 => am_ok24 ft tk cl (y mid).cls (y mid).name a b d i len
      | 25 => am_ok25 tk (y mid).cls a d i len
      | 26 => am_ok26 a i len
      | 27 => am_ok27 a i len
      | 28 => am_okE .arraylength i len
      | 29 => am_ok29 tk cl rcl y mL np fr lo rt mid a b d c offs i len
      | 30 => am_ok30 (rt mid) a i len
      | 31 => am_ok31 tk cl (y mid).cls a b d i len
      | 32 => am_ok32 a i len
      | 33 => am_ok33 tk (y mid).cls (fr mid) (lo mid) a d i len
      | 34 => am_ok34 tk (y mid).cls (fr mid) (lo mid) a d i len
      | 35 => am_ok35 tk (y mid).cls (fr mid) (lo mid) d i len
      | 37 => am_ok37 tk (y mid).cls (fr mid) (lo mid) d i len
      | 38 => am_ok38 strs (y mid).cls a i len
      | _ => false)
section STP
variable {ft : List (List Nat)} {T Tg NT : List Cond} {tk : Nat → Option Cond} {cl : List vw_C} {rcl : List (String × (Nat → String × String))} {strs : List (String × Nat × String)} {y : Nat → MethodName} {bc : Nat → ByteArray} {mL np fr lo : Nat → Nat} {rt : Nat → Option FieldType} {mid pc pc' : Nat} {en : am_E}
variable {p : Program} {l : Launch} {e : Env} {R : Room} {s : State} {m : MethodId} {args : Array Value} {below : List Frame} {meth : Method} {c : Code} {D : va_G} {cA : Nat → ClassId} {A : Nat → Prop} {ad : Nat → Nat} {cells slots : Nat} {Q : State → Prop} {H : Heap} {locs : List Loc} {ls : Array Slot} {L L' : am_L} {S S' : List am_V} {μ μ' : am_M}
theorem am_chk_okc (h : am_chk ft tk cl rcl strs y bc mL np fr lo rt mid pc en = true) : am_okc en ∧ (en.1 = 26 → en.2.2.1 < 4) := by
  obtain ⟨op, len, a, b, d, cc, ks, offs⟩ := en
  unfold am_chk at h
  dsimp only at h
  split at h
  · cases h
  · rename_i i l _
    simp only [Bool.and_eq_true] at h
    refine ⟨⟨fun z => ?_, fun z => ?_⟩, fun z => ?_⟩
    · have z : op = 6 := z
      subst z
      have h2 := h.2
      simp only [Bool.and_eq_true, decide_eq_true_eq] at h2
      exact h2.2
    · have z : op = 7 := z
      subst z
      have h2 := h.2
      simp only [Bool.and_eq_true, decide_eq_true_eq] at h2
      exact h2.2
    · have z : op = 26 := z
      subst z
      have h2 := h.2
      unfold am_ok26 at h2
      simp only [Bool.and_eq_true] at h2
      have h3 := h2.2
      show a < 4
      split at h3
      · omega
      · omega
      · omega
      · omega
      · cases h3
theorem am_w_step (htk : ∀ (d : Nat) (w : Cond), tk d = some w → w ∈ T) (hX : am_X T cl D cA A p s m args c (bc mid) (mL mid) (y mid).cls) (hcl : am_clOk ft T cl) (hgl : am_glOk T) (hsub : ∀ w ∈ Tg, w ∈ T) (hgd : ∀ w ∈ Tg, goodWord w = true) (hck : am_ckOk Tg) (hro : am_RO ft rcl cl.length ad A s μ.2.1 μ.2.2) (hg : am_GL NT strs ad A s) (hnm : (y mid).name = "<init>" → meth.name = "<init>") (hR : R.frames = fr mid ∧ R.locals = lo mid) (hchk : am_chk ft tk cl rcl strs y bc mL np fr lo rt mid pc en = true) (h : am_step ft en pc L S μ = some (pc', L', S', μ')) (I : am_I ft μ L S) (hroom : cells + (μ'.1.length - μ.1.length) ≤ R.cells ∧ slots + (am_sl μ' - am_sl μ) ≤ R.slots) (hl : am_lv ad ls (mL mid) L) (hP : va_P D cl (am_ws ft ad cA μ) H) (hD : va_D A (am_ws ft ad cA μ)) (hS : va_S A s.heap H locs) (kk : am_Kk ft p l e R s m args below meth c D cl cA A (mL mid) ad μ cells slots Q pc' L' S' μ') : W p l e R s m args below meth c H locs cells slots Q (F0 m pc ls (S.map (am_rv ad))) := by
  obtain ⟨op, len, a, b, d, z, ks, offs⟩ := en
  unfold am_chk at hchk
  dsimp only at hchk
  split at hchk
  next => cases hchk
  next i l' hd =>
    simp only [Bool.and_eq_true, decide_eq_true_eq] at hchk
    obtain ⟨rfl, hchk⟩ := hchk
    unfold am_step at h
    dsimp only at h
    split at h
    · exact am_w_load hX hd hchk h hl hP hD hS kk
    · exact am_w_load hX hd hchk h hl hP hD hS kk
    · exact am_w_load hX hd hchk h hl hP hD hS kk
    · exact am_w_store hX hd hchk h hl hP hD hS kk
    · exact am_w_store hX hd hchk h hl hP hD hS kk
    · exact am_w_store hX hd hchk h hl hP hD hS kk
    · simp only [Option.some.injEq, Prod.mk.injEq] at h
      obtain ⟨rfl, rfl, rfl, rfl⟩ := h
      simp only [Bool.and_eq_true] at hchk
      exact am_w_iconst htk hX hd hchk.1 (kk.same hl hP hD hS)
    · simp only [Option.some.injEq, Prod.mk.injEq] at h
      obtain ⟨rfl, rfl, rfl, rfl⟩ := h
      simp only [Bool.and_eq_true] at hchk
      exact am_w_lconst htk hX hd hchk.1 (kk.same hl hP hD hS)
    · exact am_w_bin hX hd hchk h hl hP hD hS kk
    · exact am_w_div hX hd hchk h I hl hP hD hS kk
    · exact am_w_div hX hd hchk h I hl hP hD hS kk
    · exact am_w_neg hX hd hchk h hl hP hD hS kk
    · exact am_w_lbin hX hd hchk h hl hP hD hS kk
    · exact am_w_conv hX hd hchk h I hl hP hD hS kk
    · exact am_w_lcmp hX hd hchk h I hl hP hD hS kk
    · exact am_w_inc hX hd hchk h hl hP hD hS kk
    · exact am_w_if hX hd hchk h I hl hP hD hS kk
    · exact am_w_icmp hX hd hchk h I hl hP hD hS kk
    · simp only [Option.some.injEq, Prod.mk.injEq] at h
      obtain ⟨rfl, rfl, rfl, rfl⟩ := h
      exact am_w_goto hX hd hchk (kk.same hl hP hD hS)
    · exact am_w_tsw hX hd hchk h I hl hP hD hS kk
    · exact am_w_dup hX hd hchk h hl hP hD hS kk
    · exact am_w_dup2 hX hd hchk h hl hP hD hS kk
    · exact am_w_pop hX hd hchk h hl hP hD hS kk
    · exact am_w_getf htk hX hcl hro hd hchk h I hl hP hD hS kk
    · exact am_w_putf htk hX hcl hnm hd hchk h I hl hP hD hS kk
    · exact am_w_gets htk hX hg hd hchk h hl hP hD hS kk
    · exact am_w_ald hX hro hd hchk h I hl hP hD hS kk
    · exact am_w_ast hX hd hchk h I hl hP hD hS kk
    · exact am_w_alen hX hro hd hchk h I hl hP hD hS kk
    · exact am_w_new htk hX hcl hd hchk h I hroom hl hP hD hS kk
    · exact am_w_newa hX hgl.1 hd hchk h I hroom hl hP hD hS kk
    · exact am_w_copy htk hX hgl hR hd hchk h I hl hP hD hS kk
    · refine am_w_math htk hX hgl hR ?_ hd hchk h I hl hP hD hS kk
      omega
    · refine am_w_chk htk hX hsub hgd hck hg hR ?_ hd hchk h I hl hP hD hS kk
      omega
    · exact am_w_oinit htk hX hgl hR hd hchk h hl hP hD hS kk
    · simp only [Option.some.injEq, Prod.mk.injEq] at h
      obtain ⟨rfl, rfl, rfl, rfl⟩ := h
      exact am_w_ldcs hX hg hd hchk (kk.same hl hP hD hS)
    · cases h
end STP
end
section
/-! the simulation itself -/
theorem am_run_tag {ft : List (List Nat)} {mL : Nat → Nat} {code : Nat → Nat → Option am_E} : ∀ (n mid pc : Nat) (L : am_L) (S : List am_V) (μ : am_M) (r : Option am_V) (μ' : am_M), am_run ft mL code n mid pc L S μ = some (r, μ') → ∀ v, r = some v → ¬ am_tag v = 2 := by
  intro n
  induction n with
  | zero => intro mid pc L S μ r μ' h; cases h
  | succ n ih =>
    intro mid pc L S μ r μ' h
    unfold am_run at h
    split at h
    next => cases h
    next op len a b d c ks offs he =>
      split at h
      next =>
        split at h
        next =>
          split at h
          next => cases h
          next => exact ih _ _ _ _ _ _ _ h
        next => cases h
      next =>
        split at h
        next =>
          split at h
          next => cases h
          next r1 hr1 =>
            simp only [Option.some.injEq, Prod.mk.injEq] at h
            obtain ⟨rfl, rfl⟩ := h
            intro v hv
            subst hv
            unfold am_ret at hr1
            split at hr1
            · cases hr1
            · cases hr1; intro z; cases z
            · split at hr1
              · cases hr1; intro z; cases z
              · cases hr1
            · split at hr1
              · cases hr1; intro z; cases z
              · cases hr1
            · split at hr1
              · cases hr1; intro z; cases z
              · cases hr1
            · cases hr1; intro z; cases z
            · cases hr1
        next =>
          split at h
          next => cases h
          next => exact ih _ _ _ _ _ _ _ h
theorem am_rv_any {ad ad' : Nat → Nat} {v : am_V} (h : ¬ am_tag v = 2) : am_rv ad' v = am_rv ad v := by
  match v, h with
  | .inl _, _ => rfl
  | .inr (.inl _), _ => rfl
  | .inr (.inr _), h => exact absurd rfl h
section MAIN
variable (ft : List (List Nat)) (T Tg NT : List Cond) (tk : Nat → Option Cond) (cl : List vw_C) (rcl : List (String × (Nat → String × String))) (strs : List (String × Nat × String)) (y : Nat → MethodName) (bc : Nat → ByteArray) (mL np fr lo : Nat → Nat) (rt : Nat → Option FieldType) (code : Nat → Nat → Option am_E) (l : Launch)
/-- the program's tables are right -/
def am_Prog : Prop := am_clOk ft T cl ∧ am_glOk T ∧ am_ckOk Tg ∧ (∀ mid pc e, code mid pc = some e → am_chk ft tk cl rcl strs y bc mL np fr lo rt mid pc e = true) ∧ (∀ mid pc e, code mid pc = some e → e.1 = 29 → am_mOk Tg y bc mL rt np e.2.2.1) ∧ (∀ w ∈ Tg, goodWord w = true) ∧ (∀ w ∈ Tg, w ∈ T) ∧ (∀ w ∈ T, w ∈ Tg ∨ w ∈ NT) ∧ (∀ w ∈ NT, am_nest w = true) ∧ ∀ (d : Nat) (w : Cond), tk d = some w → w ∈ T
def am_SimP (n : Nat) : Prop := ∀ (mid pc : Nat) (L : am_L) (S : List am_V) (μ : am_M) (r : Option am_V) (μ' : am_M), am_run ft mL code n mid pc L S μ = some (r, μ') → am_I ft μ L S →
  ∀ (p : Program) (e : Env) (R : Room) (s : State) (m : MethodId) (args : Array Value) (below : List Frame) (meth : Method) (c : Code) (D : va_G) (cA : Nat → ClassId) (A : Nat → Prop) (ad : Nat → Nat) (cells slots : Nat) (Q : State → Prop) (H : Heap) (locs : List Loc) (ls : Array Slot),
  am_X T cl D cA A p s m args c (bc mid) (mL mid) (y mid).cls → ((y mid).name = "<init>" → meth.name = "<init>") → (R.frames = fr mid ∧ R.locals = lo mid) → (cells + (μ'.1.length - μ.1.length) ≤ R.cells ∧ slots + (am_sl μ' - am_sl μ) ≤ R.slots) → am_RO ft rcl cl.length ad A s μ.2.1 μ.2.2 → am_GL NT strs ad A s → am_lv ad ls (mL mid) L → va_P D cl (am_ws ft ad cA μ) H → va_D A (am_ws ft ad cA μ) → va_S A s.heap H locs →
  (∀ (ad' : Nat → Nat) (H' : Heap) (locs' : List Loc) (ls' : Array Slot) (pc' : Nat) (S' : List am_V) (ap : Nat) (i : Instr) (len : Nat), am_ext μ.1.length ad ad' → decode (bc mid) pc' = .ok (i, len) → am_ok30 (rt mid) ap i len = true → am_ret ap S' = some r → (∀ v ∈ S', am_okV μ'.1.length v) → va_P D cl (am_ws ft ad' cA μ') H' → va_D A (am_ws ft ad' cA μ') → va_S A s.heap H' locs' → W p l e R s m args below meth c H' locs' (cells + (μ'.1.length - μ.1.length)) (slots + (am_sl μ' - am_sl μ)) Q (F0 m pc' ls' (S'.map (am_rv ad')))) →
  W p l e R s m args below meth c H locs cells slots Q (F0 m pc ls (S.map (am_rv ad)))
end MAIN
section MET
variable {ft : List (List Nat)} {T Tg NT : List Cond} {cl : List vw_C} {rcl : List (String × (Nat → String × String))} {strs : List (String × Nat × String)} {y : Nat → MethodName} {bc : Nat → ByteArray} {mL np fr lo : Nat → Nat} {rt : Nat → Option FieldType} {code : Nat → Nat → Option am_E} {l : Launch}
theorem am_met {n : Nat} (hT : (∀ w ∈ T, w ∈ Tg ∨ w ∈ NT) ∧ ∀ w ∈ NT, am_nest w = true) (ih : am_SimP ft T NT cl rcl strs y bc mL fr lo rt code l n) {a : Nat} (hm : am_mOk Tg y bc mL rt np a) {vs : List am_V} {μ μ' : am_M} {r : Option am_V} (hlen : (am_ent0 vs).length ≤ mL a) (hrun : am_run ft mL code n a 0 (am_ent (mL a) vs) [] μ = some (r, μ')) (I : am_I ft μ (am_ent (mL a) vs) []) (D : va_G) (cA : Nat → ClassId) (ad : Nat → Nat) (sz : Nat) :
    Met l (y a) (Cond.code (y a) (bc a) (mL a) (rt a) :: Tg) ({ frames := fr a, cells := μ'.1.length - μ.1.length, slots := am_sl μ' - am_sl μ, locals := lo a } : Room) (am_Pc NT ft cl rcl strs D cA ad sz vs μ) (am_Qc ft cl D cA (va_A (am_ws ft ad cA μ) sz) ad μ.1.length r μ') (μ'.1.length - μ.1.length) (am_sl μ' - am_sl μ) (va_A (am_ws ft ad cA μ) sz) := by
  refine Met.ofW (cc := bc a) (maxL := mL a) (ret := rt a) hm.2.2.2.2.2 rfl ?_
  intro p e s m args below meth c s₁ B hml hv
  obtain ⟨rfl, hsz, hP, hD0, hK, hro, hg⟩ := hv
  have hx := B.exec
  have hb := B.bytes
  have hr := B.returns
  have hts := atoms_spec (ws := Cond.code (y a) (bc a) (mL a) (rt a) :: Tg) B.pre
  have hown : s.vm.findClass (y a).cls = some m.cls := findClass_of_methodNamed B.named
  have hlocks := B.notSynchronized
  have hin : meth.name = (y a).name := (name_of_methodNamed B.named B.method).1
  subst hsz
  have hD := hD0.self (sz := s.heap.size)
  have hA : ∀ q : Nat, s.heap.size ≤ q → va_A (am_ws ft ad cA μ) s.heap.size q := fun q h => Or.inr h
  have hS : va_S (va_A (am_ws ft ad cA μ) s.heap.size) s.heap s.heap [] := va_S.rf
  rw [lg_entry_eq]
  have hl := am_lv_entry (ad := ad) hlen
  refine ih a 0 (am_ent (mL a) vs) [] μ r μ' hrun I p e _ s m _ below meth c D cA (va_A (am_ws ft ad cA μ) s.heap.size) ad 0 0 _ s.heap [] _ ⟨hx, hb, hml, hown, fun w hw => (hT.1 w hw).elim (fun z => hts w (List.mem_cons_of_mem _ z)) (fun z => va_Nw.use (am_nest_tab (hT.2 w z)) (hg.2.2.2.2 w z)), hK, hA⟩ (fun z => hin.trans z) ⟨rfl, rfl⟩ ⟨by rw [Nat.zero_add]; exact Nat.le_refl _, by rw [Nat.zero_add]; exact Nat.le_refl _⟩ hro hg hl hP hD hS ?_
  intro ad' H' locs' ls' pc' S' ap i len hext hd h30 hret hok hP' hD' hS'
  rw [Nat.zero_add, Nat.zero_add]
  have hq : ∀ (v : Option Value), v = r.map (am_rv ad) → ∀ t : State, t.heap = H' → s.WarmedH t.vm → am_Qc ft cl D cA (va_A (am_ws ft ad cA μ) s.heap.size) ad μ.1.length r μ' (List.map (am_rv ad) vs).toArray s (.returned v) t := fun v hv t ht _ => ⟨by rw [hv], ⟨ad', hext, by rw [ht]; exact hP', hD'⟩, hS'.F ht⟩
  unfold am_ok30 at h30
  simp only [Bool.and_eq_true, decide_eq_true_eq] at h30
  obtain ⟨rfl, h30⟩ := h30
  unfold am_ret at hret
  split at hret
  · cases hret
    simp only [Bool.and_eq_true, decide_eq_true_eq] at h30
    obtain ⟨rfl, h31⟩ := h30
    exact W.vret hx hb (hr.trans h31) (hq none rfl) hS'.2.2 hd
  · cases hret
    simp only [Bool.and_eq_true, decide_eq_true_eq] at h30
    obtain ⟨rfl, h31⟩ := h30
    exact W.iret hx hb (hr.trans h31) (hq _ rfl) hS'.2.2 hd
  · split at hret
    · rename_i hz
      cases hret
      simp only [Bool.and_eq_true, decide_eq_true_eq] at h30
      obtain ⟨rfl, h31⟩ := h30
      exact W.zret hx hb (hr.trans h31) (congrArg Value.int (am_oz1 hz).1) (hq _ rfl) hS'.2.2 hd
    · cases hret
  · split at hret
    · rename_i hz
      cases hret
      simp only [Bool.and_eq_true, decide_eq_true_eq] at h30
      obtain ⟨rfl, h31⟩ := h30
      exact W.zret hx hb (hr.trans h31) (congrArg Value.int (am_ob hz)) (hq _ rfl) hS'.2.2 hd
    · cases hret
  · split at hret
    · rename_i x hz
      cases hret
      simp only [Bool.and_eq_true, decide_eq_true_eq] at h30
      obtain ⟨rfl, h31⟩ := h30
      refine W.zret hx hb (hr.trans h31) ?_ (hq _ rfl) hS'.2.2 hd
      obtain ⟨k, rfl⟩ : ∃ k : Nat, x = (k : Int) := ⟨x.toNat, by omega⟩
      rw [← am_nI]
      exact (pk_charN (by omega)).1
    · cases hret
  · cases hret
    simp only [Bool.and_eq_true, decide_eq_true_eq] at h30
    obtain ⟨rfl, h31⟩ := h30
    exact W.lret hx hb (hr.trans h31) (hq _ rfl) hS'.2.2 hd
  · cases hret
end MET
end
section
section SIMU
variable {ft : List (List Nat)} {T Tg NT : List Cond} {tk : Nat → Option Cond} {cl : List vw_C} {rcl : List (String × (Nat → String × String))} {strs : List (String × Nat × String)} {y : Nat → MethodName} {bc : Nat → ByteArray} {mL np fr lo : Nat → Nat} {rt : Nat → Option FieldType} {code : Nat → Nat → Option am_E} {l : Launch}
/-- the call of a method whose run ends -/
theorem am_w_call {mid pc len a b d n : Nat} {z : Int} {offs : List Nat} {i : Instr} {p : Program} {e : Env} {R : Room} {s : State} {m : MethodId} {args : Array Value} {below : List Frame} {meth : Method} {c : Code} {D : va_G} {cA : Nat → ClassId} {A : Nat → Prop} {ad : Nat → Nat} {cells slots : Nat} {Q : State → Prop} {H : Heap} {locs : List Loc} {ls : Array Slot} {L : am_L} {S : List am_V} {μ μ1 : am_M} {r1 : Option am_V}
    (htk : ∀ (d : Nat) (w : Cond), tk d = some w → w ∈ T) (hT : (∀ w ∈ T, w ∈ Tg ∨ w ∈ NT) ∧ ∀ w ∈ NT, am_nest w = true) (hsub : ∀ w ∈ Tg, w ∈ T) (ih : am_SimP ft T NT cl rcl strs y bc mL fr lo rt code l n) (hgood : ∀ w ∈ Tg, goodWord w = true) (hm : am_mOk Tg y bc mL rt np a) (hX : am_X T cl D cA A p s m args c (bc mid) (mL mid) (y mid).cls) (hro : am_RO ft rcl cl.length ad A s μ.2.1 μ.2.2) (hg : am_GL NT strs ad A s) (hR : R.frames = fr mid ∧ R.locals = lo mid) (hd : decode (bc mid) pc = .ok (i, len)) (ho : am_ok29 tk cl rcl y mL np fr lo rt mid a b d z offs i len = true)
    (hb : b ≤ S.length) (hlen : (am_ent0 (S.take b).reverse).length ≤ mL a) (hcat : am_cats (S.drop b) ≤ 8) (hrecv : am_recvOk z d μ (S.take b).reverse = true) (hrun : am_run ft mL code n a 0 (am_ent (mL a) (S.take b).reverse) [] μ = some (r1, μ1)) (I : am_I ft μ L S) (hroom : cells + (μ1.1.length - μ.1.length) ≤ R.cells ∧ slots + (am_sl μ1 - am_sl μ) ≤ R.slots) (hl : am_lv ad ls (mL mid) L) (hP : va_P D cl (am_ws ft ad cA μ) H) (hD : va_D A (am_ws ft ad cA μ)) (hS : va_S A s.heap H locs)
    (kk : ∀ (ad' : Nat → Nat) (H1 : Heap) (locs1 : List Loc), am_ext μ.1.length ad ad' → va_P D cl (am_ws ft ad' cA μ1) H1 → va_D A (am_ws ft ad' cA μ1) → va_S A s.heap H1 locs1 → W p l e R s m args below meth c H1 locs1 (cells + (μ1.1.length - μ.1.length)) (slots + (am_sl μ1 - am_sl μ)) Q (F0 m (pc + len) ls ((r1.map (am_rv ad)).toList ++ (S.drop b).map (am_rv ad)))) : W p l e R s m args below meth c H locs cells slots Q (F0 m pc ls (S.map (am_rv ad))) := by
  obtain ⟨hx, hbb, hml, hown, hts, hK, hA⟩ := hX
  obtain ⟨m1, m2, m3, m4, m5, m6⟩ := id hm
  have Iv : am_I ft μ (am_ent (mL a) (S.take b).reverse) [] := ⟨I.1, fun v hv => I.2.2 v (List.mem_of_mem_take (List.mem_reverse.mp (am_ent_mem hv))), fun v hv => by cases hv⟩
  have hM := am_met (np := np) hT ih hm hlen hrun Iv D cA ad H.size
  have hF : ∀ q, va_A (am_ws ft ad cA μ) H.size q → A q := by
    intro q hq
    rcases hq with ⟨k, e', h⟩ | h
    · exact hD.2 k (q, e') h
    · exact hA q (Nat.le_trans hS.1 h)
  have hG : GoodIn T (Cond.code (y a) (bc a) (mL a) (rt a) :: Tg) := fun w hw => by
    rcases List.mem_cons.mp hw with rfl | hw
    · exact ⟨hsub _ m1, good_of_word (hgood _ m1)⟩
    · exact ⟨hsub _ hw, good_of_word (hgood _ hw)⟩
  unfold am_ok29 at ho
  simp only [Bool.and_eq_true, decide_eq_true_eq] at ho
  obtain ⟨rfl, hfr, hlo, ho⟩ := ho
  have hPc : ∀ U : State, U.heap = H → s.WarmedH U.vm → am_Pc NT ft cl rcl strs D cA ad H.size (S.take b).reverse μ (((S.take b).reverse).map (am_rv ad)).toArray U := by
    intro U hU hW
    have hq : ∀ q : Nat, q < s.heap.size → ¬ A q → U.heap[q]? = s.heap[q]? := fun q h1 h2 => by rw [hU]; exact hS.2.1 q h1 h2
    exact ⟨rfl, by rw [hU], by rw [hU]; exact hP, hD.weaken (fun _ _ _ _ => trivial), va_K.moved hW.alike hK, hro.to hq hF hW.alike, hg.to hq hF hW.alike (fun own k tx b' h => vk_R.warm hW h) (fun w hw h => am_Nw_warm (hT.2 w hw) hW h)⟩
  have hsplit : S.map (am_rv ad) = (((S.take b).reverse).map (am_rv ad)).reverse ++ (S.drop b).map (am_rv ad) := by
    rw [← List.map_reverse, List.reverse_reverse, ← List.map_append, List.take_append_drop]
  have hrest : 2 * (F0 m pc ls (S.map (am_rv ad))).monitorRoom + (((S.drop b).map (am_rv ad)).map fun v => v.category).sum ≤ 8 := lv_room (by rw [am_cats_rv]; exact hcat)
  have hRoom : fr a + 1 ≤ R.frames ∧ 8 + (mL a + 11) + lo a ≤ R.locals := by rw [hR.1, hR.2]; exact ⟨hfr, hlo⟩
  have hlenb : (S.take b).reverse.length = b := by rw [List.length_reverse, List.length_take]; omega
  split at ho
  next h1 h2 h3 =>
    split at ho
    next k =>
      simp only [Bool.and_eq_true, decide_eq_true_eq] at ho
      obtain ⟨rfl, rfl, w1, w2, w3, hci⟩ := ho
      unfold am_recvOk at hrecv
      rw [if_neg (by decide)] at hrecv
      split at hrecv
      next rb tl hvs =>
        split at hrecv
        next kd N rs hds =>
          simp only [decide_eq_true_eq] at hrecv
          subst hrecv
          have hcell : ∃ cellB : Cell, H[ad rb]? = some cellB ∧ cellB.vm.isStatics = false ∧ s.vm.findClass (y a).cls = some cellB.cls := by
            unfold am_dsc at hds
            split at hds
            next hk =>
              have hw : (am_ws ft ad cA μ)[rb]? = some (ad rb, .inr (d, (List.range N).map (am_fv ft ad (μ.2.2 rb) d rs))) := by rw [am_ws_get hds, am_cell_o]
              obtain ⟨q, hq, -⟩ := hP rb _ hw
              rw [hq] at hci
              obtain ⟨C, Tt, N'⟩ := q
              simp only [decide_eq_true_eq] at hci
              have := va_recv hK hP hq hw
              rw [← hci]
              exact this
            next hk =>
              obtain ⟨-, -, -, -, h5⟩ := hro _ _ hds
              obtain ⟨h6, q, h7, h8, -⟩ := h5 (by show 4 ≤ 4 + d; omega)
              have ea : 4 + d - 4 = d := by omega
              have ek : 1000 + (rb - 1000) = rb := by omega
              dsimp only at h6 h7
              rw [ea] at h6 h7
              rw [ek] at h8
              have hn : cl[d]? = none := List.getElem?_eq_none (by omega)
              rw [hn] at hci
              dsimp only at hci
              rw [h7] at hci
              obtain ⟨C, Tf⟩ := q
              simp only [decide_eq_true_eq] at hci
              obtain ⟨cell, g1, g2, g3, -⟩ := h8.kept hS.2.1
              rw [← hci]
              exact ⟨cell, g1, g2, g3⟩
          have hvs' : (S.take (np a + 1)).reverse = .inr (.inr rb) :: tl := hvs
          have htl : tl.length = np a := by
            have := hlenb
            rw [hvs'] at this
            simpa using this
          have cw : CallW R s args (y mid).cls (y a).cls k (y a) (bc a) (mL a) (rt a) (Cond.code (y a) (bc a) (mL a) (rt a) :: Tg) ({ frames := fr a, cells := μ1.1.length - μ.1.length, slots := am_sl μ1 - am_sl μ, locals := lo a } : Room) (μ1.1.length - μ.1.length) (am_sl μ1 - am_sl μ) (np a) :=
            ⟨callB_of (np a) hts hG rfl rfl rfl (hts _ (hsub _ m2)) (hts _ (htk _ _ w1)) ⟨m3, m4, m5⟩ hRoom, hts _ (htk _ _ w2), hts _ (htk _ _ w3)⟩
          rw [hvs'] at hM hPc hsplit
          have run := va_runV (H := H) (locs := locs) (cells := cells) (slots := slots) (below := below) (e := e) (meth := meth) (g := F0 m pc ls (S.map (am_rv ad))) (b := ad rb) (As := tl.map (am_rv ad)) (rest := (S.drop (np a + 1)).map (am_rv ad)) (Ts := T) ⟨hx, hbb, hml, hown, hts⟩ hM cw ⟨am_Pc.blind hT.2, hcell, hPc⟩ rfl (by rw [List.length_map]; exact htl) hl.1.1 (by show S.map (am_rv ad) = _; rw [hsplit]; simp [am_rv]) hrest hd hroom
          exact am_call run hS hF kk
        next => cases hrecv
      next => cases hrecv
    next k =>
      simp only [Bool.and_eq_true, decide_eq_true_eq] at ho
      obtain ⟨rfl, rfl, w1, w2⟩ := ho
      have cw : CallB R s args (y mid).cls k (y a) (bc a) (mL a) (rt a) (Cond.code (y a) (bc a) (mL a) (rt a) :: Tg) ({ frames := fr a, cells := μ1.1.length - μ.1.length, slots := am_sl μ1 - am_sl μ, locals := lo a } : Room) (μ1.1.length - μ.1.length) (am_sl μ1 - am_sl μ) (np a) ∧ (Cond.static (y a)).before args s = true :=
        ⟨callB_of (np a) hts hG rfl rfl rfl (hts _ (hsub _ m2)) (hts _ (htk _ _ w1)) ⟨m3, m4, m5⟩ hRoom, hts _ (htk _ _ w2)⟩
      have run := va_runS (H := H) (locs := locs) (cells := cells) (slots := slots) (below := below) (e := e) (meth := meth) (g := F0 m pc ls (S.map (am_rv ad))) (As := ((S.take (np a)).reverse).map (am_rv ad)) (rest := (S.drop (np a)).map (am_rv ad)) (Ts := T) ⟨hx, hbb, hml, hown, hts⟩ hM cw ⟨am_Pc.blind hT.2, hPc⟩ rfl (by rw [List.length_map]; exact hlenb) hl.1.1 hsplit hrest hd hroom
      exact am_call run hS hF kk
    next k =>
      simp only [Bool.and_eq_true, decide_eq_true_eq, Bool.or_eq_true] at ho
      obtain ⟨rfl, wi, wr, w2, hk⟩ := ho
      have hz : ¬ z = 1 := by rcases hk with h | h <;> omega
      unfold am_recvOk at hrecv
      rw [if_neg hz] at hrecv
      split at hrecv
      next rb tl hvs =>
        have hvs' : (S.take (np a + 1)).reverse = .inr (.inr rb) :: tl := hvs
        have htl : tl.length = np a := by
          have := hlenb
          rw [hvs'] at this
          simpa using this
        rw [hvs'] at hM hPc hsplit
        rw [wr] at hM hG
        have hcode : (Cond.code (y a) (bc a) (mL a) none).before args s = true := by rw [← wr]; exact hts _ (hsub _ m1)
        rcases hk with ⟨-, w1⟩ | ⟨-, w1⟩
        · have cw : CallB R s args (y mid).cls k (y a) (bc a) (mL a) none (Cond.code (y a) (bc a) (mL a) none :: Tg) ({ frames := fr a, cells := μ1.1.length - μ.1.length, slots := am_sl μ1 - am_sl μ, locals := lo a } : Room) (μ1.1.length - μ.1.length) (am_sl μ1 - am_sl μ) (np a) ∧ (y a).name = "<init>" ∧ (Cond.instanceMethod (y a)).before args s = true :=
            ⟨callB_of (np a) hts hG rfl rfl rfl (hts _ (hsub _ m2)) (hts _ (htk _ _ w1)) ⟨m3, m4, m5⟩ hRoom, wi, hts _ (htk _ _ w2)⟩
          have run := va_runI (H := H) (locs := locs) (cells := cells) (slots := slots) (below := below) (e := e) (meth := meth) (g := F0 m pc ls (S.map (am_rv ad))) (b := ad rb) (As := tl.map (am_rv ad)) (rest := (S.drop (np a + 1)).map (am_rv ad)) (Ts := T) ⟨hx, hbb, hml, hown, hts⟩ hM cw ⟨am_Pc.blind hT.2, hPc⟩ rfl (by rw [List.length_map]; exact htl) hl.1.1 (by show S.map (am_rv ad) = _; rw [hsplit]; simp [am_rv]) hrest hd hroom
          exact am_call run hS hF kk
        · have hn : ∀ sig, parseMethodDescriptor (y a).desc = some sig → np a = sig.parameters.length := fun sig h => by
            rw [h] at m5
            exact (Option.some.inj m5).symm
          have cw : va_CN R s args (y mid).cls k (y a) "EatenToll" (bc a) (mL a) none (Cond.code (y a) (bc a) (mL a) none :: Tg) ({ frames := fr a, cells := μ1.1.length - μ.1.length, slots := am_sl μ1 - am_sl μ, locals := lo a } : Room) (μ1.1.length - μ.1.length) (am_sl μ1 - am_sl μ) (np a) ∧ (y a).name = "<init>" ∧ (Cond.instanceMethod (y a)).before args s = true :=
            ⟨⟨⟨rfl, rfl, hRoom.1, hRoom.2, pay_in hts hG, List.mem_cons_self⟩, hcode, hts _ (hsub _ m2), ⟨m3, m4⟩, hn, hts _ (htk _ _ w1)⟩, wi, hts _ (htk _ _ w2)⟩
          have run := va_runIN (H := H) (locs := locs) (cells := cells) (slots := slots) (below := below) (e := e) (meth := meth) (g := F0 m pc ls (S.map (am_rv ad))) (b := ad rb) (As := tl.map (am_rv ad)) (rest := (S.drop (np a + 1)).map (am_rv ad)) (Ts := T) ⟨hx, hbb, hml, hown, hts⟩ hM cw ⟨am_Pc.blind hT.2, hPc⟩ rfl (by rw [List.length_map]; exact htl) hl.1.1 (by show S.map (am_rv ad) = _; rw [hsplit]; simp [am_rv]) hrest hd hroom
          exact am_call run hS hF kk
      next => cases hrecv
    next => cases ho
  next => cases ho
/-- THE SIMULATION: a run of the abstract machine that ends is one of the machine -/
theorem am_sim (hpr : am_Prog ft T Tg NT tk cl rcl strs y bc mL np fr lo rt code) : ∀ n, am_SimP ft T NT cl rcl strs y bc mL fr lo rt code l n := by
  obtain ⟨hcl, hgl, hck, hchk, hm, hgood, hsub, hTn, hNT, htk⟩ := hpr
  have hok : ∀ mid pc e, code mid pc = some e → am_okc e ∧ (e.1 = 26 → e.2.2.1 < 4) := fun mid pc e h => am_chk_okc (hchk mid pc e h)
  intro n
  induction n with
  | zero => intro mid pc L S μ r μ' h; cases h
  | succ n ih =>
    intro mid pc L S μ r μ' h I p e R s m args below meth c D cA A ad cells slots Q H locs ls hX hnm hR hroom hro hg hl hP hD hS hend
    unfold am_run at h
    split at h
    next => cases h
    next op len a b d z ks offs he =>
      split at h
      next hop =>
        subst hop
        split at h
        next hc =>
          obtain ⟨hb, hlen, hcat, hrecv⟩ := hc
          split at h
          next => cases h
          next r1 μ1 hr1 =>
            have Iv : am_I ft μ (am_ent (mL a) (S.take b).reverse) [] := ⟨I.1, fun v hv => I.2.2 v (List.mem_of_mem_take (List.mem_reverse.mp (am_ent_mem hv))), fun v hv => by cases hv⟩
            obtain ⟨⟨g1, g2⟩, g3⟩ := am_p_run hok _ _ _ _ _ _ _ _ hr1 Iv
            have I1 : am_I ft μ1 (am_kill ks L) (r1.toList ++ S.drop b) := ⟨g1, fun v hv => (I.2.1 v (am_mem_kill hv)).mono g3.1, fun v hv => by
              rcases List.mem_append.mp hv with q | q
              · exact g2 v (by simpa using q)
              · exact (I.2.2 v (List.mem_of_mem_drop q)).mono g3.1⟩
            obtain ⟨-, k2⟩ := am_p_run hok _ _ _ _ _ _ _ _ h I1
            have hch := hchk mid pc _ he
            unfold am_chk at hch
            dsimp only at hch
            split at hch
            next => cases hch
            next i l' hd =>
              simp only [Bool.and_eq_true, decide_eq_true_eq] at hch
              obtain ⟨rfl, hch⟩ := hch
              have q1 := g3.1
              have q2 := g3.2.1
              have q3 := k2.1
              have q4 := k2.2.1
              refine am_w_call htk ⟨hTn, hNT⟩ hsub ih hgood (hm mid pc _ he rfl) hX hro hg hR hd hch hb hlen hcat hrecv hr1 I ⟨by omega, by omega⟩ hl hP hD hS (fun ad' H1 locs1 hext p1 p2 p3 => ?_)
              have est : (r1.map (am_rv ad)).toList ++ (S.drop b).map (am_rv ad) = (r1.toList ++ S.drop b).map (am_rv ad') := by
                rw [List.map_append, am_rvs_ext hext (fun v hv => I.2.2 v (List.mem_of_mem_drop hv))]
                congr 1
                cases r1 with
                | none => rfl
                | some v =>
                  show [am_rv ad v] = [am_rv ad' v]
                  rw [am_rv_any (am_run_tag _ _ _ _ _ _ _ _ hr1 v rfl)]
              rw [est]
              refine ih mid (pc + l') (am_kill ks L) (r1.toList ++ S.drop b) μ1 r μ' h I1 p e R s m args below meth c D cA A ad' _ _ Q H1 locs1 ls hX hnm hR ⟨by omega, by omega⟩ (hro.step I.1 g3 hext) (hg.ext hext) ((hl.kill ks).ext hext (fun v hv => I.2.1 v (am_mem_kill hv))) p1 p2 p3 (fun ad2 H2 locs2 ls2 pc2 S2 ap i2 len2 hx2 hd2 h30 hret hok2 P2 D2 S2' => ?_)
              have := hend ad2 H2 locs2 ls2 pc2 S2 ap i2 len2 (hext.tr hx2 g3.1) hd2 h30 hret hok2 P2 D2 S2'
              refine W.cs ?_ ?_ this <;> omega
        next => cases h
      next =>
        split at h
        next hop =>
          subst hop
          split at h
          next => cases h
          next r1 hr1 =>
            simp only [Option.some.injEq, Prod.mk.injEq] at h
            obtain ⟨rfl, rfl⟩ := h
            have hch := hchk mid pc _ he
            unfold am_chk at hch
            dsimp only at hch
            split at hch
            next => cases hch
            next i l' hd =>
              simp only [Bool.and_eq_true, decide_eq_true_eq] at hch
              obtain ⟨rfl, hch⟩ := hch
              have := hend ad H locs ls pc S a i l' am_ext.rf hd hch hr1 I.2.2 hP hD hS
              refine W.cs ?_ ?_ this <;> omega
        next =>
          split at h
          next => cases h
          next pc1 L1 S1 μ1 hs =>
            obtain ⟨I1, g3⟩ := am_p_step (hok mid pc _ he).1 (hok mid pc _ he).2 hs (I.kill ks)
            obtain ⟨-, k2⟩ := am_p_run hok _ _ _ _ _ _ _ _ h I1
            have q1 := g3.1
            have q2 := g3.2.1
            have q3 := k2.1
            have q4 := k2.2.1
            refine am_w_step htk hX hcl hgl hsub hgood hck hro hg hnm hR (hchk mid pc _ he) hs (I.kill ks) ⟨by omega, by omega⟩ (hl.kill ks) hP hD hS (fun ad' H1 locs1 ls1 hext l1 p1 p2 p3 => ?_)
            refine ih mid pc1 L1 S1 μ1 r μ' h I1 p e R s m args below meth c D cA A ad' _ _ Q H1 locs1 ls1 hX hnm hR ⟨by omega, by omega⟩ (hro.step I.1 g3 hext) (hg.ext hext) l1 p1 p2 p3 (fun ad2 H2 locs2 ls2 pc2 S2 ap i2 len2 hx2 hd2 h30 hret hok2 P2 D2 S2' => ?_)
            have := hend ad2 H2 locs2 ls2 pc2 S2 ap i2 len2 (hext.tr hx2 g3.1) hd2 h30 hret hok2 P2 D2 S2'
            refine W.cs ?_ ?_ this <;> omega
end SIMU
end
