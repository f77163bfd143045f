section
-- ===== PART A: goes FIRST, ahead of the names: the tables' words, and 'selects' of the private methods out of them =====
/-- a private method of a class that the tables say can be made, by its rows of tables_1 -/
def lw_okq (q : MethodName × Nat) : Prop := (q.1.cls ≠ "java/lang/invoke/MethodHandle" ∧ q.1.cls ≠ "java/lang/invoke/VarHandle") ∧ Cond.instantiable q.1.cls q.2 ∈ tables_1 ∧ Cond.privateMethod q.1 ∈ tables_1 ∧ Cond.instanceMethod q.1 ∈ tables_1
theorem lw_p0 : lw_okq (⟨"EatenToll$Tape", "scanToken", "(I)I"⟩, 7) := ⟨⟨by decide +kernel, by decide +kernel⟩, List.mem_of_getElem? (i := 32) (by decide +kernel), List.mem_of_getElem? (i := 579) (by decide +kernel), List.mem_of_getElem? (i := 580) (by decide +kernel)⟩
theorem lw_p1 : lw_okq (⟨"EatenToll$Tape", "scanLetters", "(I)I"⟩, 7) := ⟨⟨by decide +kernel, by decide +kernel⟩, List.mem_of_getElem? (i := 32) (by decide +kernel), List.mem_of_getElem? (i := 586) (by decide +kernel), List.mem_of_getElem? (i := 587) (by decide +kernel)⟩
theorem lw_p2 : lw_okq (⟨"EatenToll$Tape", "scanDigits", "(I)I"⟩, 7) := ⟨⟨by decide +kernel, by decide +kernel⟩, List.mem_of_getElem? (i := 32) (by decide +kernel), List.mem_of_getElem? (i := 593) (by decide +kernel), List.mem_of_getElem? (i := 594) (by decide +kernel)⟩
theorem lw_p3 : lw_okq (⟨"EatenToll$Reader", "readDish", "()V"⟩, 12) := ⟨⟨by decide +kernel, by decide +kernel⟩, List.mem_of_getElem? (i := 224) (by decide +kernel), List.mem_of_getElem? (i := 657) (by decide +kernel), List.mem_of_getElem? (i := 658) (by decide +kernel)⟩
theorem lw_p4 : lw_okq (⟨"EatenToll$Reader", "takeFirst", "(I)V"⟩, 12) := ⟨⟨by decide +kernel, by decide +kernel⟩, List.mem_of_getElem? (i := 224) (by decide +kernel), List.mem_of_getElem? (i := 661) (by decide +kernel), List.mem_of_getElem? (i := 662) (by decide +kernel)⟩
theorem lw_p5 : lw_okq (⟨"EatenToll$Reader", "fail", "(I)V"⟩, 12) := ⟨⟨by decide +kernel, by decide +kernel⟩, List.mem_of_getElem? (i := 224) (by decide +kernel), List.mem_of_getElem? (i := 667) (by decide +kernel), List.mem_of_getElem? (i := 668) (by decide +kernel)⟩
theorem lw_p6 : lw_okq (⟨"EatenToll$Reader", "take", "(I)Z"⟩, 12) := ⟨⟨by decide +kernel, by decide +kernel⟩, List.mem_of_getElem? (i := 224) (by decide +kernel), List.mem_of_getElem? (i := 671) (by decide +kernel), List.mem_of_getElem? (i := 672) (by decide +kernel)⟩
theorem lw_p7 : lw_okq (⟨"EatenToll$Reader", "newName", "()J"⟩, 12) := ⟨⟨by decide +kernel, by decide +kernel⟩, List.mem_of_getElem? (i := 224) (by decide +kernel), List.mem_of_getElem? (i := 675) (by decide +kernel), List.mem_of_getElem? (i := 676) (by decide +kernel)⟩
theorem lw_p8 : lw_okq (⟨"EatenToll$Told", "numberOf", "(JII)I"⟩, 21) := ⟨⟨by decide +kernel, by decide +kernel⟩, List.mem_of_getElem? (i := 120) (by decide +kernel), List.mem_of_getElem? (i := 691) (by decide +kernel), List.mem_of_getElem? (i := 692) (by decide +kernel)⟩
theorem lw_p9 : lw_okq (⟨"EatenToll$Reader", "note", "(I)V"⟩, 12) := ⟨⟨by decide +kernel, by decide +kernel⟩, List.mem_of_getElem? (i := 224) (by decide +kernel), List.mem_of_getElem? (i := 707) (by decide +kernel), List.mem_of_getElem? (i := 708) (by decide +kernel)⟩
theorem lw_p10 : lw_okq (⟨"EatenToll$Reader", "number", "(II)I"⟩, 12) := ⟨⟨by decide +kernel, by decide +kernel⟩, List.mem_of_getElem? (i := 224) (by decide +kernel), List.mem_of_getElem? (i := 711) (by decide +kernel), List.mem_of_getElem? (i := 712) (by decide +kernel)⟩
theorem lw_p11 : lw_okq (⟨"EatenToll$Reader", "readMan", "()V"⟩, 12) := ⟨⟨by decide +kernel, by decide +kernel⟩, List.mem_of_getElem? (i := 224) (by decide +kernel), List.mem_of_getElem? (i := 719) (by decide +kernel), List.mem_of_getElem? (i := 720) (by decide +kernel)⟩
theorem lw_p12 : lw_okq (⟨"EatenToll$Reader", "isTrait", "()Z"⟩, 12) := ⟨⟨by decide +kernel, by decide +kernel⟩, List.mem_of_getElem? (i := 224) (by decide +kernel), List.mem_of_getElem? (i := 733) (by decide +kernel), List.mem_of_getElem? (i := 734) (by decide +kernel)⟩
theorem lw_p13 : lw_okq (⟨"EatenToll$Reader", "readTrait", "(I)V"⟩, 12) := ⟨⟨by decide +kernel, by decide +kernel⟩, List.mem_of_getElem? (i := 224) (by decide +kernel), List.mem_of_getElem? (i := 737) (by decide +kernel), List.mem_of_getElem? (i := 738) (by decide +kernel)⟩
theorem lw_p14 : lw_okq (⟨"EatenToll$Reader", "toldDish", "()I"⟩, 12) := ⟨⟨by decide +kernel, by decide +kernel⟩, List.mem_of_getElem? (i := 224) (by decide +kernel), List.mem_of_getElem? (i := 745) (by decide +kernel), List.mem_of_getElem? (i := 746) (by decide +kernel)⟩
theorem lw_p15 : lw_okq (⟨"EatenToll$Reader", "known", "(I)I"⟩, 12) := ⟨⟨by decide +kernel, by decide +kernel⟩, List.mem_of_getElem? (i := 224) (by decide +kernel), List.mem_of_getElem? (i := 750) (by decide +kernel), List.mem_of_getElem? (i := 751) (by decide +kernel)⟩
def lw_privs_1 : List (MethodName × Nat) := [(⟨"EatenToll$Tape", "scanToken", "(I)I"⟩, 7), (⟨"EatenToll$Tape", "scanLetters", "(I)I"⟩, 7), (⟨"EatenToll$Tape", "scanDigits", "(I)I"⟩, 7), (⟨"EatenToll$Reader", "readDish", "()V"⟩, 12), (⟨"EatenToll$Reader", "takeFirst", "(I)V"⟩, 12), (⟨"EatenToll$Reader", "fail", "(I)V"⟩, 12), (⟨"EatenToll$Reader", "take", "(I)Z"⟩, 12), (⟨"EatenToll$Reader", "newName", "()J"⟩, 12), (⟨"EatenToll$Told", "numberOf", "(JII)I"⟩, 21), (⟨"EatenToll$Reader", "note", "(I)V"⟩, 12), (⟨"EatenToll$Reader", "number", "(II)I"⟩, 12), (⟨"EatenToll$Reader", "readMan", "()V"⟩, 12), (⟨"EatenToll$Reader", "isTrait", "()Z"⟩, 12), (⟨"EatenToll$Reader", "readTrait", "(I)V"⟩, 12), (⟨"EatenToll$Reader", "toldDish", "()I"⟩, 12), (⟨"EatenToll$Reader", "known", "(I)I"⟩, 12)]
theorem lw_r1 : ∀ q ∈ lw_privs_1, lw_okq q := List.forall_mem_cons.mpr ⟨lw_p0, List.forall_mem_cons.mpr ⟨lw_p1, List.forall_mem_cons.mpr ⟨lw_p2, List.forall_mem_cons.mpr ⟨lw_p3, List.forall_mem_cons.mpr ⟨lw_p4, List.forall_mem_cons.mpr ⟨lw_p5, List.forall_mem_cons.mpr ⟨lw_p6, List.forall_mem_cons.mpr ⟨lw_p7, List.forall_mem_cons.mpr ⟨lw_p8, List.forall_mem_cons.mpr ⟨lw_p9, List.forall_mem_cons.mpr ⟨lw_p10, List.forall_mem_cons.mpr ⟨lw_p11, List.forall_mem_cons.mpr ⟨lw_p12, List.forall_mem_cons.mpr ⟨lw_p13, List.forall_mem_cons.mpr ⟨lw_p14, List.forall_mem_cons.mpr ⟨lw_p15, fun _ h => absurd h List.not_mem_nil⟩⟩⟩⟩⟩⟩⟩⟩⟩⟩⟩⟩⟩⟩⟩⟩
theorem lw_p16 : lw_okq (⟨"EatenToll$Reader", "readBelly", "()V"⟩, 12) := ⟨⟨by decide +kernel, by decide +kernel⟩, List.mem_of_getElem? (i := 224) (by decide +kernel), List.mem_of_getElem? (i := 762) (by decide +kernel), List.mem_of_getElem? (i := 763) (by decide +kernel)⟩
theorem lw_p17 : lw_okq (⟨"EatenToll$Reader", "readGoing", "()V"⟩, 12) := ⟨⟨by decide +kernel, by decide +kernel⟩, List.mem_of_getElem? (i := 224) (by decide +kernel), List.mem_of_getElem? (i := 770) (by decide +kernel), List.mem_of_getElem? (i := 771) (by decide +kernel)⟩
theorem lw_p18 : lw_okq (⟨"EatenToll$Reader", "toldMan", "()I"⟩, 12) := ⟨⟨by decide +kernel, by decide +kernel⟩, List.mem_of_getElem? (i := 224) (by decide +kernel), List.mem_of_getElem? (i := 774) (by decide +kernel), List.mem_of_getElem? (i := 775) (by decide +kernel)⟩
theorem lw_p19 : lw_okq (⟨"EatenToll$Reader", "readDebt", "()V"⟩, 12) := ⟨⟨by decide +kernel, by decide +kernel⟩, List.mem_of_getElem? (i := 224) (by decide +kernel), List.mem_of_getElem? (i := 783) (by decide +kernel), List.mem_of_getElem? (i := 784) (by decide +kernel)⟩
theorem lw_p20 : lw_okq (⟨"EatenToll$Reader", "readLaw", "()V"⟩, 12) := ⟨⟨by decide +kernel, by decide +kernel⟩, List.mem_of_getElem? (i := 224) (by decide +kernel), List.mem_of_getElem? (i := 791) (by decide +kernel), List.mem_of_getElem? (i := 792) (by decide +kernel)⟩
theorem lw_p21 : lw_okq (⟨"EatenToll$Reader", "readIf", "(I)V"⟩, 12) := ⟨⟨by decide +kernel, by decide +kernel⟩, List.mem_of_getElem? (i := 224) (by decide +kernel), List.mem_of_getElem? (i := 799) (by decide +kernel), List.mem_of_getElem? (i := 800) (by decide +kernel)⟩
theorem lw_p22 : lw_okq (⟨"EatenToll$Reader", "readExpression", "(I)V"⟩, 12) := ⟨⟨by decide +kernel, by decide +kernel⟩, List.mem_of_getElem? (i := 224) (by decide +kernel), List.mem_of_getElem? (i := 803) (by decide +kernel), List.mem_of_getElem? (i := 804) (by decide +kernel)⟩
theorem lw_p23 : lw_okq (⟨"EatenToll$Reader", "waitFor", "(I)V"⟩, 12) := ⟨⟨by decide +kernel, by decide +kernel⟩, List.mem_of_getElem? (i := 224) (by decide +kernel), List.mem_of_getElem? (i := 807) (by decide +kernel), List.mem_of_getElem? (i := 808) (by decide +kernel)⟩
theorem lw_p24 : lw_okq (⟨"EatenToll$Reader", "readUnit", "(I)V"⟩, 12) := ⟨⟨by decide +kernel, by decide +kernel⟩, List.mem_of_getElem? (i := 224) (by decide +kernel), List.mem_of_getElem? (i := 811) (by decide +kernel), List.mem_of_getElem? (i := 812) (by decide +kernel)⟩
theorem lw_p25 : lw_okq (⟨"EatenToll$Reader", "release", "(I)V"⟩, 12) := ⟨⟨by decide +kernel, by decide +kernel⟩, List.mem_of_getElem? (i := 224) (by decide +kernel), List.mem_of_getElem? (i := 826) (by decide +kernel), List.mem_of_getElem? (i := 827) (by decide +kernel)⟩
theorem lw_p26 : lw_okq (⟨"EatenToll", "isMan", "(I)Z"⟩, 14) := ⟨⟨by decide +kernel, by decide +kernel⟩, List.mem_of_getElem? (i := 24) (by decide +kernel), List.mem_of_getElem? (i := 869) (by decide +kernel), List.mem_of_getElem? (i := 870) (by decide +kernel)⟩
theorem lw_p27 : lw_okq (⟨"EatenToll", "isDish", "(I)Z"⟩, 14) := ⟨⟨by decide +kernel, by decide +kernel⟩, List.mem_of_getElem? (i := 24) (by decide +kernel), List.mem_of_getElem? (i := 894) (by decide +kernel), List.mem_of_getElem? (i := 895) (by decide +kernel)⟩
theorem lw_p28 : lw_okq (⟨"EatenToll", "isDishOrAll", "(I)Z"⟩, 14) := ⟨⟨by decide +kernel, by decide +kernel⟩, List.mem_of_getElem? (i := 24) (by decide +kernel), List.mem_of_getElem? (i := 914) (by decide +kernel), List.mem_of_getElem? (i := 915) (by decide +kernel)⟩
theorem lw_p29 : lw_okq (⟨"EatenToll$Keeper", "valueOf", "(I)I"⟩, 3) := ⟨⟨by decide +kernel, by decide +kernel⟩, List.mem_of_getElem? (i := 323) (by decide +kernel), List.mem_of_getElem? (i := 939) (by decide +kernel), List.mem_of_getElem? (i := 940) (by decide +kernel)⟩
theorem lw_p30 : lw_okq (⟨"EatenToll$Guesser", "mayInTrial", "(IILEatenToll$Plate;)Z"⟩, 9) := ⟨⟨by decide +kernel, by decide +kernel⟩, List.mem_of_getElem? (i := 428) (by decide +kernel), List.mem_of_getElem? (i := 1021) (by decide +kernel), List.mem_of_getElem? (i := 1022) (by decide +kernel)⟩
theorem lw_p31 : lw_okq (⟨"EatenToll$Mouths", "swallowsAll", "(ILEatenToll$Plate;II)Z"⟩, 8) := ⟨⟨by decide +kernel, by decide +kernel⟩, List.mem_of_getElem? (i := 363) (by decide +kernel), List.mem_of_getElem? (i := 1042) (by decide +kernel), List.mem_of_getElem? (i := 1043) (by decide +kernel)⟩
def lw_privs_2 : List (MethodName × Nat) := [(⟨"EatenToll$Reader", "readBelly", "()V"⟩, 12), (⟨"EatenToll$Reader", "readGoing", "()V"⟩, 12), (⟨"EatenToll$Reader", "toldMan", "()I"⟩, 12), (⟨"EatenToll$Reader", "readDebt", "()V"⟩, 12), (⟨"EatenToll$Reader", "readLaw", "()V"⟩, 12), (⟨"EatenToll$Reader", "readIf", "(I)V"⟩, 12), (⟨"EatenToll$Reader", "readExpression", "(I)V"⟩, 12), (⟨"EatenToll$Reader", "waitFor", "(I)V"⟩, 12), (⟨"EatenToll$Reader", "readUnit", "(I)V"⟩, 12), (⟨"EatenToll$Reader", "release", "(I)V"⟩, 12), (⟨"EatenToll", "isMan", "(I)Z"⟩, 14), (⟨"EatenToll", "isDish", "(I)Z"⟩, 14), (⟨"EatenToll", "isDishOrAll", "(I)Z"⟩, 14), (⟨"EatenToll$Keeper", "valueOf", "(I)I"⟩, 3), (⟨"EatenToll$Guesser", "mayInTrial", "(IILEatenToll$Plate;)Z"⟩, 9), (⟨"EatenToll$Mouths", "swallowsAll", "(ILEatenToll$Plate;II)Z"⟩, 8)]
theorem lw_r2 : ∀ q ∈ lw_privs_2, lw_okq q := List.forall_mem_cons.mpr ⟨lw_p16, List.forall_mem_cons.mpr ⟨lw_p17, List.forall_mem_cons.mpr ⟨lw_p18, List.forall_mem_cons.mpr ⟨lw_p19, List.forall_mem_cons.mpr ⟨lw_p20, List.forall_mem_cons.mpr ⟨lw_p21, List.forall_mem_cons.mpr ⟨lw_p22, List.forall_mem_cons.mpr ⟨lw_p23, List.forall_mem_cons.mpr ⟨lw_p24, List.forall_mem_cons.mpr ⟨lw_p25, List.forall_mem_cons.mpr ⟨lw_p26, List.forall_mem_cons.mpr ⟨lw_p27, List.forall_mem_cons.mpr ⟨lw_p28, List.forall_mem_cons.mpr ⟨lw_p29, List.forall_mem_cons.mpr ⟨lw_p30, List.forall_mem_cons.mpr ⟨lw_p31, fun _ h => absurd h List.not_mem_nil⟩⟩⟩⟩⟩⟩⟩⟩⟩⟩⟩⟩⟩⟩⟩⟩
theorem lw_p32 : lw_okq (⟨"EatenToll$Mouths", "setBins", "(II)I"⟩, 8) := ⟨⟨by decide +kernel, by decide +kernel⟩, List.mem_of_getElem? (i := 363) (by decide +kernel), List.mem_of_getElem? (i := 1046) (by decide +kernel), List.mem_of_getElem? (i := 1047) (by decide +kernel)⟩
theorem lw_p33 : lw_okq (⟨"EatenToll$Mouths", "setStrides", "(LEatenToll$Plate;)I"⟩, 8) := ⟨⟨by decide +kernel, by decide +kernel⟩, List.mem_of_getElem? (i := 363) (by decide +kernel), List.mem_of_getElem? (i := 1050) (by decide +kernel), List.mem_of_getElem? (i := 1051) (by decide +kernel)⟩
theorem lw_p34 : lw_okq (⟨"EatenToll$Mouths", "withBite", "(III)I"⟩, 8) := ⟨⟨by decide +kernel, by decide +kernel⟩, List.mem_of_getElem? (i := 363) (by decide +kernel), List.mem_of_getElem? (i := 1058) (by decide +kernel), List.mem_of_getElem? (i := 1059) (by decide +kernel)⟩
theorem lw_p35 : lw_okq (⟨"EatenToll$Mouths", "offer", "(III)V"⟩, 8) := ⟨⟨by decide +kernel, by decide +kernel⟩, List.mem_of_getElem? (i := 363) (by decide +kernel), List.mem_of_getElem? (i := 1093) (by decide +kernel), List.mem_of_getElem? (i := 1094) (by decide +kernel)⟩
theorem lw_p36 : lw_okq (⟨"EatenToll", "isSet", "(I)Z"⟩, 14) := ⟨⟨by decide +kernel, by decide +kernel⟩, List.mem_of_getElem? (i := 24) (by decide +kernel), List.mem_of_getElem? (i := 1108) (by decide +kernel), List.mem_of_getElem? (i := 1109) (by decide +kernel)⟩
theorem lw_p37 : lw_okq (⟨"EatenToll$Planner", "planHour", "()V"⟩, 9) := ⟨⟨by decide +kernel, by decide +kernel⟩, List.mem_of_getElem? (i := 394) (by decide +kernel), List.mem_of_getElem? (i := 1120) (by decide +kernel), List.mem_of_getElem? (i := 1121) (by decide +kernel)⟩
theorem lw_p38 : lw_okq (⟨"EatenToll$Planner", "worthOf", "(II)I"⟩, 9) := ⟨⟨by decide +kernel, by decide +kernel⟩, List.mem_of_getElem? (i := 394) (by decide +kernel), List.mem_of_getElem? (i := 1131) (by decide +kernel), List.mem_of_getElem? (i := 1132) (by decide +kernel)⟩
theorem lw_p39 : lw_okq (⟨"EatenToll$Guesser", "eatersOf", "(LEatenToll$Scene;I)I"⟩, 9) := ⟨⟨by decide +kernel, by decide +kernel⟩, List.mem_of_getElem? (i := 428) (by decide +kernel), List.mem_of_getElem? (i := 1178) (by decide +kernel), List.mem_of_getElem? (i := 1179) (by decide +kernel)⟩
theorem lw_p40 : lw_okq (⟨"EatenToll$Guesser", "layByNumber", "(I)V"⟩, 9) := ⟨⟨by decide +kernel, by decide +kernel⟩, List.mem_of_getElem? (i := 428) (by decide +kernel), List.mem_of_getElem? (i := 1186) (by decide +kernel), List.mem_of_getElem? (i := 1187) (by decide +kernel)⟩
theorem lw_p41 : lw_okq (⟨"EatenToll$Guesser", "servedFrom", "(LEatenToll$Scene;)I"⟩, 9) := ⟨⟨by decide +kernel, by decide +kernel⟩, List.mem_of_getElem? (i := 428) (by decide +kernel), List.mem_of_getElem? (i := 1193) (by decide +kernel), List.mem_of_getElem? (i := 1194) (by decide +kernel)⟩
theorem lw_p42 : lw_okq (⟨"EatenToll$Guesser", "whoSwallow", "(LEatenToll$Scene;I)I"⟩, 9) := ⟨⟨by decide +kernel, by decide +kernel⟩, List.mem_of_getElem? (i := 428) (by decide +kernel), List.mem_of_getElem? (i := 1199) (by decide +kernel), List.mem_of_getElem? (i := 1200) (by decide +kernel)⟩
theorem lw_p43 : lw_okq (⟨"EatenToll$Guesser", "goByHimself", "(I)V"⟩, 9) := ⟨⟨by decide +kernel, by decide +kernel⟩, List.mem_of_getElem? (i := 428) (by decide +kernel), List.mem_of_getElem? (i := 1217) (by decide +kernel), List.mem_of_getElem? (i := 1218) (by decide +kernel)⟩
theorem lw_p44 : lw_okq (⟨"EatenToll$Book", "whyRefused", "(I)I"⟩, 9) := ⟨⟨by decide +kernel, by decide +kernel⟩, List.mem_of_getElem? (i := 466) (by decide +kernel), List.mem_of_getElem? (i := 1270) (by decide +kernel), List.mem_of_getElem? (i := 1271) (by decide +kernel)⟩
theorem lw_p45 : lw_okq (⟨"EatenTollModel", "put", "(I)V"⟩, 88) := ⟨⟨by decide +kernel, by decide +kernel⟩, List.mem_of_getElem? (i := 1321) (by decide +kernel), List.mem_of_getElem? (i := 1603) (by decide +kernel), List.mem_of_getElem? (i := 1604) (by decide +kernel)⟩
theorem lw_p46 : lw_okq (⟨"EatenTollModel", "cut", "()V"⟩, 88) := ⟨⟨by decide +kernel, by decide +kernel⟩, List.mem_of_getElem? (i := 1321) (by decide +kernel), List.mem_of_getElem? (i := 1615) (by decide +kernel), List.mem_of_getElem? (i := 1616) (by decide +kernel)⟩
theorem lw_p47 : lw_okq (⟨"EatenTollModel", "byteAt", "(I)I"⟩, 88) := ⟨⟨by decide +kernel, by decide +kernel⟩, List.mem_of_getElem? (i := 1321) (by decide +kernel), List.mem_of_getElem? (i := 1619) (by decide +kernel), List.mem_of_getElem? (i := 1620) (by decide +kernel)⟩
def lw_privs_3 : List (MethodName × Nat) := [(⟨"EatenToll$Mouths", "setBins", "(II)I"⟩, 8), (⟨"EatenToll$Mouths", "setStrides", "(LEatenToll$Plate;)I"⟩, 8), (⟨"EatenToll$Mouths", "withBite", "(III)I"⟩, 8), (⟨"EatenToll$Mouths", "offer", "(III)V"⟩, 8), (⟨"EatenToll", "isSet", "(I)Z"⟩, 14), (⟨"EatenToll$Planner", "planHour", "()V"⟩, 9), (⟨"EatenToll$Planner", "worthOf", "(II)I"⟩, 9), (⟨"EatenToll$Guesser", "eatersOf", "(LEatenToll$Scene;I)I"⟩, 9), (⟨"EatenToll$Guesser", "layByNumber", "(I)V"⟩, 9), (⟨"EatenToll$Guesser", "servedFrom", "(LEatenToll$Scene;)I"⟩, 9), (⟨"EatenToll$Guesser", "whoSwallow", "(LEatenToll$Scene;I)I"⟩, 9), (⟨"EatenToll$Guesser", "goByHimself", "(I)V"⟩, 9), (⟨"EatenToll$Book", "whyRefused", "(I)I"⟩, 9), (⟨"EatenTollModel", "put", "(I)V"⟩, 88), (⟨"EatenTollModel", "cut", "()V"⟩, 88), (⟨"EatenTollModel", "byteAt", "(I)I"⟩, 88)]
theorem lw_r3 : ∀ q ∈ lw_privs_3, lw_okq q := List.forall_mem_cons.mpr ⟨lw_p32, List.forall_mem_cons.mpr ⟨lw_p33, List.forall_mem_cons.mpr ⟨lw_p34, List.forall_mem_cons.mpr ⟨lw_p35, List.forall_mem_cons.mpr ⟨lw_p36, List.forall_mem_cons.mpr ⟨lw_p37, List.forall_mem_cons.mpr ⟨lw_p38, List.forall_mem_cons.mpr ⟨lw_p39, List.forall_mem_cons.mpr ⟨lw_p40, List.forall_mem_cons.mpr ⟨lw_p41, List.forall_mem_cons.mpr ⟨lw_p42, List.forall_mem_cons.mpr ⟨lw_p43, List.forall_mem_cons.mpr ⟨lw_p44, List.forall_mem_cons.mpr ⟨lw_p45, List.forall_mem_cons.mpr ⟨lw_p46, List.forall_mem_cons.mpr ⟨lw_p47, fun _ h => absurd h List.not_mem_nil⟩⟩⟩⟩⟩⟩⟩⟩⟩⟩⟩⟩⟩⟩⟩⟩
theorem lw_p48 : lw_okq (⟨"EatenTollModel", "token", "(IIIJ)V"⟩, 88) := ⟨⟨by decide +kernel, by decide +kernel⟩, List.mem_of_getElem? (i := 1321) (by decide +kernel), List.mem_of_getElem? (i := 1623) (by decide +kernel), List.mem_of_getElem? (i := 1624) (by decide +kernel)⟩
theorem lw_p49 : lw_okq (⟨"EatenTollModel", "sign", "(III)I"⟩, 88) := ⟨⟨by decide +kernel, by decide +kernel⟩, List.mem_of_getElem? (i := 1321) (by decide +kernel), List.mem_of_getElem? (i := 1633) (by decide +kernel), List.mem_of_getElem? (i := 1634) (by decide +kernel)⟩
theorem lw_p50 : lw_okq (⟨"EatenTollModel", "is", "(I)Z"⟩, 88) := ⟨⟨by decide +kernel, by decide +kernel⟩, List.mem_of_getElem? (i := 1321) (by decide +kernel), List.mem_of_getElem? (i := 1637) (by decide +kernel), List.mem_of_getElem? (i := 1638) (by decide +kernel)⟩
theorem lw_p51 : lw_okq (⟨"EatenTollModel", "tell", "()V"⟩, 88) := ⟨⟨by decide +kernel, by decide +kernel⟩, List.mem_of_getElem? (i := 1321) (by decide +kernel), List.mem_of_getElem? (i := 1641) (by decide +kernel), List.mem_of_getElem? (i := 1642) (by decide +kernel)⟩
theorem lw_p52 : lw_okq (⟨"EatenTollModel", "roomFor", "(II)V"⟩, 88) := ⟨⟨by decide +kernel, by decide +kernel⟩, List.mem_of_getElem? (i := 1321) (by decide +kernel), List.mem_of_getElem? (i := 1645) (by decide +kernel), List.mem_of_getElem? (i := 1646) (by decide +kernel)⟩
theorem lw_p53 : lw_okq (⟨"EatenTollModel", "fail", "(I)V"⟩, 88) := ⟨⟨by decide +kernel, by decide +kernel⟩, List.mem_of_getElem? (i := 1321) (by decide +kernel), List.mem_of_getElem? (i := 1649) (by decide +kernel), List.mem_of_getElem? (i := 1650) (by decide +kernel)⟩
theorem lw_p54 : lw_okq (⟨"EatenTollModel", "goesOn", "()V"⟩, 88) := ⟨⟨by decide +kernel, by decide +kernel⟩, List.mem_of_getElem? (i := 1321) (by decide +kernel), List.mem_of_getElem? (i := 1653) (by decide +kernel), List.mem_of_getElem? (i := 1654) (by decide +kernel)⟩
theorem lw_p55 : lw_okq (⟨"EatenTollModel", "tellDish", "()V"⟩, 88) := ⟨⟨by decide +kernel, by decide +kernel⟩, List.mem_of_getElem? (i := 1321) (by decide +kernel), List.mem_of_getElem? (i := 1657) (by decide +kernel), List.mem_of_getElem? (i := 1658) (by decide +kernel)⟩
theorem lw_p56 : lw_okq (⟨"EatenTollModel", "named", "()I"⟩, 88) := ⟨⟨by decide +kernel, by decide +kernel⟩, List.mem_of_getElem? (i := 1321) (by decide +kernel), List.mem_of_getElem? (i := 1661) (by decide +kernel), List.mem_of_getElem? (i := 1662) (by decide +kernel)⟩
theorem lw_p57 : lw_okq (⟨"EatenTollModel", "must", "(I)V"⟩, 88) := ⟨⟨by decide +kernel, by decide +kernel⟩, List.mem_of_getElem? (i := 1321) (by decide +kernel), List.mem_of_getElem? (i := 1665) (by decide +kernel), List.mem_of_getElem? (i := 1666) (by decide +kernel)⟩
theorem lw_p58 : lw_okq (⟨"EatenTollModel", "wrong", "(II)V"⟩, 88) := ⟨⟨by decide +kernel, by decide +kernel⟩, List.mem_of_getElem? (i := 1321) (by decide +kernel), List.mem_of_getElem? (i := 1669) (by decide +kernel), List.mem_of_getElem? (i := 1670) (by decide +kernel)⟩
theorem lw_p59 : lw_okq (⟨"EatenTollModel", "bounded", "(II)I"⟩, 88) := ⟨⟨by decide +kernel, by decide +kernel⟩, List.mem_of_getElem? (i := 1321) (by decide +kernel), List.mem_of_getElem? (i := 1673) (by decide +kernel), List.mem_of_getElem? (i := 1674) (by decide +kernel)⟩
theorem lw_p60 : lw_okq (⟨"EatenTollModel", "notes", "(III)V"⟩, 88) := ⟨⟨by decide +kernel, by decide +kernel⟩, List.mem_of_getElem? (i := 1321) (by decide +kernel), List.mem_of_getElem? (i := 1677) (by decide +kernel), List.mem_of_getElem? (i := 1678) (by decide +kernel)⟩
theorem lw_p61 : lw_okq (⟨"EatenTollModel", "tellMan", "()V"⟩, 88) := ⟨⟨by decide +kernel, by decide +kernel⟩, List.mem_of_getElem? (i := 1321) (by decide +kernel), List.mem_of_getElem? (i := 1681) (by decide +kernel), List.mem_of_getElem? (i := 1682) (by decide +kernel)⟩
theorem lw_p62 : lw_okq (⟨"EatenTollModel", "tellTrait", "(I)V"⟩, 88) := ⟨⟨by decide +kernel, by decide +kernel⟩, List.mem_of_getElem? (i := 1321) (by decide +kernel), List.mem_of_getElem? (i := 1685) (by decide +kernel), List.mem_of_getElem? (i := 1686) (by decide +kernel)⟩
theorem lw_p63 : lw_okq (⟨"EatenTollModel", "known", "(I)I"⟩, 88) := ⟨⟨by decide +kernel, by decide +kernel⟩, List.mem_of_getElem? (i := 1321) (by decide +kernel), List.mem_of_getElem? (i := 1689) (by decide +kernel), List.mem_of_getElem? (i := 1690) (by decide +kernel)⟩
def lw_privs_4 : List (MethodName × Nat) := [(⟨"EatenTollModel", "token", "(IIIJ)V"⟩, 88), (⟨"EatenTollModel", "sign", "(III)I"⟩, 88), (⟨"EatenTollModel", "is", "(I)Z"⟩, 88), (⟨"EatenTollModel", "tell", "()V"⟩, 88), (⟨"EatenTollModel", "roomFor", "(II)V"⟩, 88), (⟨"EatenTollModel", "fail", "(I)V"⟩, 88), (⟨"EatenTollModel", "goesOn", "()V"⟩, 88), (⟨"EatenTollModel", "tellDish", "()V"⟩, 88), (⟨"EatenTollModel", "named", "()I"⟩, 88), (⟨"EatenTollModel", "must", "(I)V"⟩, 88), (⟨"EatenTollModel", "wrong", "(II)V"⟩, 88), (⟨"EatenTollModel", "bounded", "(II)I"⟩, 88), (⟨"EatenTollModel", "notes", "(III)V"⟩, 88), (⟨"EatenTollModel", "tellMan", "()V"⟩, 88), (⟨"EatenTollModel", "tellTrait", "(I)V"⟩, 88), (⟨"EatenTollModel", "known", "(I)I"⟩, 88)]
theorem lw_r4 : ∀ q ∈ lw_privs_4, lw_okq q := List.forall_mem_cons.mpr ⟨lw_p48, List.forall_mem_cons.mpr ⟨lw_p49, List.forall_mem_cons.mpr ⟨lw_p50, List.forall_mem_cons.mpr ⟨lw_p51, List.forall_mem_cons.mpr ⟨lw_p52, List.forall_mem_cons.mpr ⟨lw_p53, List.forall_mem_cons.mpr ⟨lw_p54, List.forall_mem_cons.mpr ⟨lw_p55, List.forall_mem_cons.mpr ⟨lw_p56, List.forall_mem_cons.mpr ⟨lw_p57, List.forall_mem_cons.mpr ⟨lw_p58, List.forall_mem_cons.mpr ⟨lw_p59, List.forall_mem_cons.mpr ⟨lw_p60, List.forall_mem_cons.mpr ⟨lw_p61, List.forall_mem_cons.mpr ⟨lw_p62, List.forall_mem_cons.mpr ⟨lw_p63, fun _ h => absurd h List.not_mem_nil⟩⟩⟩⟩⟩⟩⟩⟩⟩⟩⟩⟩⟩⟩⟩⟩
theorem lw_p64 : lw_okq (⟨"EatenTollModel", "tellLaw", "()V"⟩, 88) := ⟨⟨by decide +kernel, by decide +kernel⟩, List.mem_of_getElem? (i := 1321) (by decide +kernel), List.mem_of_getElem? (i := 1693) (by decide +kernel), List.mem_of_getElem? (i := 1694) (by decide +kernel)⟩
theorem lw_p65 : lw_okq (⟨"EatenTollModel", "expression", "()V"⟩, 88) := ⟨⟨by decide +kernel, by decide +kernel⟩, List.mem_of_getElem? (i := 1321) (by decide +kernel), List.mem_of_getElem? (i := 1697) (by decide +kernel), List.mem_of_getElem? (i := 1698) (by decide +kernel)⟩
theorem lw_p66 : lw_okq (⟨"EatenTollModel", "unit", "()V"⟩, 88) := ⟨⟨by decide +kernel, by decide +kernel⟩, List.mem_of_getElem? (i := 1321) (by decide +kernel), List.mem_of_getElem? (i := 1701) (by decide +kernel), List.mem_of_getElem? (i := 1702) (by decide +kernel)⟩
theorem lw_p67 : lw_okq (⟨"EatenTollModel", "emit", "(II)V"⟩, 88) := ⟨⟨by decide +kernel, by decide +kernel⟩, List.mem_of_getElem? (i := 1321) (by decide +kernel), List.mem_of_getElem? (i := 1705) (by decide +kernel), List.mem_of_getElem? (i := 1706) (by decide +kernel)⟩
theorem lw_p68 : lw_okq (⟨"EatenTollModel", "comesOut", "(Z)V"⟩, 88) := ⟨⟨by decide +kernel, by decide +kernel⟩, List.mem_of_getElem? (i := 1321) (by decide +kernel), List.mem_of_getElem? (i := 1709) (by decide +kernel), List.mem_of_getElem? (i := 1710) (by decide +kernel)⟩
theorem lw_p69 : lw_okq (⟨"EatenTollModel", "term", "()V"⟩, 88) := ⟨⟨by decide +kernel, by decide +kernel⟩, List.mem_of_getElem? (i := 1321) (by decide +kernel), List.mem_of_getElem? (i := 1713) (by decide +kernel), List.mem_of_getElem? (i := 1714) (by decide +kernel)⟩
theorem lw_p70 : lw_okq (⟨"EatenTollModel", "tellBelly", "()V"⟩, 88) := ⟨⟨by decide +kernel, by decide +kernel⟩, List.mem_of_getElem? (i := 1321) (by decide +kernel), List.mem_of_getElem? (i := 1717) (by decide +kernel), List.mem_of_getElem? (i := 1718) (by decide +kernel)⟩
theorem lw_p71 : lw_okq (⟨"EatenTollModel", "tellGoing", "()V"⟩, 88) := ⟨⟨by decide +kernel, by decide +kernel⟩, List.mem_of_getElem? (i := 1321) (by decide +kernel), List.mem_of_getElem? (i := 1721) (by decide +kernel), List.mem_of_getElem? (i := 1722) (by decide +kernel)⟩
theorem lw_p72 : lw_okq (⟨"EatenTollModel", "tellDebt", "()V"⟩, 88) := ⟨⟨by decide +kernel, by decide +kernel⟩, List.mem_of_getElem? (i := 1321) (by decide +kernel), List.mem_of_getElem? (i := 1725) (by decide +kernel), List.mem_of_getElem? (i := 1726) (by decide +kernel)⟩
theorem lw_p73 : lw_okq (⟨"EatenTollModel", "begins", "()V"⟩, 88) := ⟨⟨by decide +kernel, by decide +kernel⟩, List.mem_of_getElem? (i := 1321) (by decide +kernel), List.mem_of_getElem? (i := 1729) (by decide +kernel), List.mem_of_getElem? (i := 1730) (by decide +kernel)⟩
theorem lw_p74 : lw_okq (⟨"EatenTollModel", "menNow", "()I"⟩, 88) := ⟨⟨by decide +kernel, by decide +kernel⟩, List.mem_of_getElem? (i := 1321) (by decide +kernel), List.mem_of_getElem? (i := 1733) (by decide +kernel), List.mem_of_getElem? (i := 1734) (by decide +kernel)⟩
theorem lw_p75 : lw_okq (⟨"EatenTollModel", "kinds", "()I"⟩, 88) := ⟨⟨by decide +kernel, by decide +kernel⟩, List.mem_of_getElem? (i := 1321) (by decide +kernel), List.mem_of_getElem? (i := 1737) (by decide +kernel), List.mem_of_getElem? (i := 1738) (by decide +kernel)⟩
theorem lw_p76 : lw_okq (⟨"EatenTollModel", "isMan", "(I)Z"⟩, 88) := ⟨⟨by decide +kernel, by decide +kernel⟩, List.mem_of_getElem? (i := 1321) (by decide +kernel), List.mem_of_getElem? (i := 1749) (by decide +kernel), List.mem_of_getElem? (i := 1750) (by decide +kernel)⟩
theorem lw_p77 : lw_okq (⟨"EatenTollModel", "isDish", "(I)Z"⟩, 88) := ⟨⟨by decide +kernel, by decide +kernel⟩, List.mem_of_getElem? (i := 1321) (by decide +kernel), List.mem_of_getElem? (i := 1760) (by decide +kernel), List.mem_of_getElem? (i := 1761) (by decide +kernel)⟩
theorem lw_p78 : lw_okq (⟨"EatenTollModel", "takes", "()V"⟩, 88) := ⟨⟨by decide +kernel, by decide +kernel⟩, List.mem_of_getElem? (i := 1321) (by decide +kernel), List.mem_of_getElem? (i := 1771) (by decide +kernel), List.mem_of_getElem? (i := 1772) (by decide +kernel)⟩
theorem lw_p79 : lw_okq (⟨"EatenTollModel", "tolls", "(III)V"⟩, 88) := ⟨⟨by decide +kernel, by decide +kernel⟩, List.mem_of_getElem? (i := 1321) (by decide +kernel), List.mem_of_getElem? (i := 1775) (by decide +kernel), List.mem_of_getElem? (i := 1776) (by decide +kernel)⟩
def lw_privs_5 : List (MethodName × Nat) := [(⟨"EatenTollModel", "tellLaw", "()V"⟩, 88), (⟨"EatenTollModel", "expression", "()V"⟩, 88), (⟨"EatenTollModel", "unit", "()V"⟩, 88), (⟨"EatenTollModel", "emit", "(II)V"⟩, 88), (⟨"EatenTollModel", "comesOut", "(Z)V"⟩, 88), (⟨"EatenTollModel", "term", "()V"⟩, 88), (⟨"EatenTollModel", "tellBelly", "()V"⟩, 88), (⟨"EatenTollModel", "tellGoing", "()V"⟩, 88), (⟨"EatenTollModel", "tellDebt", "()V"⟩, 88), (⟨"EatenTollModel", "begins", "()V"⟩, 88), (⟨"EatenTollModel", "menNow", "()I"⟩, 88), (⟨"EatenTollModel", "kinds", "()I"⟩, 88), (⟨"EatenTollModel", "isMan", "(I)Z"⟩, 88), (⟨"EatenTollModel", "isDish", "(I)Z"⟩, 88), (⟨"EatenTollModel", "takes", "()V"⟩, 88), (⟨"EatenTollModel", "tolls", "(III)V"⟩, 88)]
theorem lw_r5 : ∀ q ∈ lw_privs_5, lw_okq q := List.forall_mem_cons.mpr ⟨lw_p64, List.forall_mem_cons.mpr ⟨lw_p65, List.forall_mem_cons.mpr ⟨lw_p66, List.forall_mem_cons.mpr ⟨lw_p67, List.forall_mem_cons.mpr ⟨lw_p68, List.forall_mem_cons.mpr ⟨lw_p69, List.forall_mem_cons.mpr ⟨lw_p70, List.forall_mem_cons.mpr ⟨lw_p71, List.forall_mem_cons.mpr ⟨lw_p72, List.forall_mem_cons.mpr ⟨lw_p73, List.forall_mem_cons.mpr ⟨lw_p74, List.forall_mem_cons.mpr ⟨lw_p75, List.forall_mem_cons.mpr ⟨lw_p76, List.forall_mem_cons.mpr ⟨lw_p77, List.forall_mem_cons.mpr ⟨lw_p78, List.forall_mem_cons.mpr ⟨lw_p79, fun _ h => absurd h List.not_mem_nil⟩⟩⟩⟩⟩⟩⟩⟩⟩⟩⟩⟩⟩⟩⟩⟩
theorem lw_p80 : lw_okq (⟨"EatenTollModel", "room", "(I)I"⟩, 88) := ⟨⟨by decide +kernel, by decide +kernel⟩, List.mem_of_getElem? (i := 1321) (by decide +kernel), List.mem_of_getElem? (i := 1779) (by decide +kernel), List.mem_of_getElem? (i := 1780) (by decide +kernel)⟩
theorem lw_p81 : lw_okq (⟨"EatenTollModel", "laid", "(I)I"⟩, 88) := ⟨⟨by decide +kernel, by decide +kernel⟩, List.mem_of_getElem? (i := 1321) (by decide +kernel), List.mem_of_getElem? (i := 1783) (by decide +kernel), List.mem_of_getElem? (i := 1784) (by decide +kernel)⟩
theorem lw_p82 : lw_okq (⟨"EatenTollModel", "termOf", "(II)I"⟩, 88) := ⟨⟨by decide +kernel, by decide +kernel⟩, List.mem_of_getElem? (i := 1321) (by decide +kernel), List.mem_of_getElem? (i := 1787) (by decide +kernel), List.mem_of_getElem? (i := 1788) (by decide +kernel)⟩
theorem lw_p83 : lw_okq (⟨"EatenTollModel", "bulkNow", "()I"⟩, 88) := ⟨⟨by decide +kernel, by decide +kernel⟩, List.mem_of_getElem? (i := 1321) (by decide +kernel), List.mem_of_getElem? (i := 1791) (by decide +kernel), List.mem_of_getElem? (i := 1792) (by decide +kernel)⟩
theorem lw_p84 : lw_okq (⟨"EatenTollModel", "mayNow", "(II)I"⟩, 88) := ⟨⟨by decide +kernel, by decide +kernel⟩, List.mem_of_getElem? (i := 1321) (by decide +kernel), List.mem_of_getElem? (i := 1799) (by decide +kernel), List.mem_of_getElem? (i := 1800) (by decide +kernel)⟩
theorem lw_p85 : lw_okq (⟨"EatenTollModel", "why", "(IZ)I"⟩, 88) := ⟨⟨by decide +kernel, by decide +kernel⟩, List.mem_of_getElem? (i := 1321) (by decide +kernel), List.mem_of_getElem? (i := 1803) (by decide +kernel), List.mem_of_getElem? (i := 1804) (by decide +kernel)⟩
theorem lw_p86 : lw_okq (⟨"EatenTollModel", "fasts", "(I)Z"⟩, 88) := ⟨⟨by decide +kernel, by decide +kernel⟩, List.mem_of_getElem? (i := 1321) (by decide +kernel), List.mem_of_getElem? (i := 1807) (by decide +kernel), List.mem_of_getElem? (i := 1808) (by decide +kernel)⟩
theorem lw_p87 : lw_okq (⟨"EatenTollModel", "bitesNow", "()I"⟩, 88) := ⟨⟨by decide +kernel, by decide +kernel⟩, List.mem_of_getElem? (i := 1321) (by decide +kernel), List.mem_of_getElem? (i := 1811) (by decide +kernel), List.mem_of_getElem? (i := 1812) (by decide +kernel)⟩
theorem lw_p88 : lw_okq (⟨"EatenTollModel", "isHated", "(II)Z"⟩, 88) := ⟨⟨by decide +kernel, by decide +kernel⟩, List.mem_of_getElem? (i := 1321) (by decide +kernel), List.mem_of_getElem? (i := 1815) (by decide +kernel), List.mem_of_getElem? (i := 1816) (by decide +kernel)⟩
theorem lw_p89 : lw_okq (⟨"EatenTollModel", "hasStores", "()Z"⟩, 88) := ⟨⟨by decide +kernel, by decide +kernel⟩, List.mem_of_getElem? (i := 1321) (by decide +kernel), List.mem_of_getElem? (i := 1819) (by decide +kernel), List.mem_of_getElem? (i := 1820) (by decide +kernel)⟩
theorem lw_p90 : lw_okq (⟨"EatenTollModel", "swallows", "(II)V"⟩, 88) := ⟨⟨by decide +kernel, by decide +kernel⟩, List.mem_of_getElem? (i := 1321) (by decide +kernel), List.mem_of_getElem? (i := 1827) (by decide +kernel), List.mem_of_getElem? (i := 1828) (by decide +kernel)⟩
theorem lw_p91 : lw_okq (⟨"EatenTollModel", "gainNow", "()I"⟩, 88) := ⟨⟨by decide +kernel, by decide +kernel⟩, List.mem_of_getElem? (i := 1321) (by decide +kernel), List.mem_of_getElem? (i := 1831) (by decide +kernel), List.mem_of_getElem? (i := 1832) (by decide +kernel)⟩
theorem lw_p92 : lw_okq (⟨"EatenTollModel", "keeps", "()V"⟩, 88) := ⟨⟨by decide +kernel, by decide +kernel⟩, List.mem_of_getElem? (i := 1321) (by decide +kernel), List.mem_of_getElem? (i := 1835) (by decide +kernel), List.mem_of_getElem? (i := 1836) (by decide +kernel)⟩
theorem lw_p93 : lw_okq (⟨"EatenTollModel", "hourGoes", "()V"⟩, 88) := ⟨⟨by decide +kernel, by decide +kernel⟩, List.mem_of_getElem? (i := 1321) (by decide +kernel), List.mem_of_getElem? (i := 1843) (by decide +kernel), List.mem_of_getElem? (i := 1844) (by decide +kernel)⟩
theorem lw_p94 : lw_okq (⟨"EatenTollModel", "hires", "(II)I"⟩, 88) := ⟨⟨by decide +kernel, by decide +kernel⟩, List.mem_of_getElem? (i := 1321) (by decide +kernel), List.mem_of_getElem? (i := 1859) (by decide +kernel), List.mem_of_getElem? (i := 1860) (by decide +kernel)⟩
theorem lw_p95 : lw_okq (⟨"EatenTollModel", "eats", "(I)I"⟩, 88) := ⟨⟨by decide +kernel, by decide +kernel⟩, List.mem_of_getElem? (i := 1321) (by decide +kernel), List.mem_of_getElem? (i := 1866) (by decide +kernel), List.mem_of_getElem? (i := 1867) (by decide +kernel)⟩
def lw_privs_6 : List (MethodName × Nat) := [(⟨"EatenTollModel", "room", "(I)I"⟩, 88), (⟨"EatenTollModel", "laid", "(I)I"⟩, 88), (⟨"EatenTollModel", "termOf", "(II)I"⟩, 88), (⟨"EatenTollModel", "bulkNow", "()I"⟩, 88), (⟨"EatenTollModel", "mayNow", "(II)I"⟩, 88), (⟨"EatenTollModel", "why", "(IZ)I"⟩, 88), (⟨"EatenTollModel", "fasts", "(I)Z"⟩, 88), (⟨"EatenTollModel", "bitesNow", "()I"⟩, 88), (⟨"EatenTollModel", "isHated", "(II)Z"⟩, 88), (⟨"EatenTollModel", "hasStores", "()Z"⟩, 88), (⟨"EatenTollModel", "swallows", "(II)V"⟩, 88), (⟨"EatenTollModel", "gainNow", "()I"⟩, 88), (⟨"EatenTollModel", "keeps", "()V"⟩, 88), (⟨"EatenTollModel", "hourGoes", "()V"⟩, 88), (⟨"EatenTollModel", "hires", "(II)I"⟩, 88), (⟨"EatenTollModel", "eats", "(I)I"⟩, 88)]
theorem lw_r6 : ∀ q ∈ lw_privs_6, lw_okq q := List.forall_mem_cons.mpr ⟨lw_p80, List.forall_mem_cons.mpr ⟨lw_p81, List.forall_mem_cons.mpr ⟨lw_p82, List.forall_mem_cons.mpr ⟨lw_p83, List.forall_mem_cons.mpr ⟨lw_p84, List.forall_mem_cons.mpr ⟨lw_p85, List.forall_mem_cons.mpr ⟨lw_p86, List.forall_mem_cons.mpr ⟨lw_p87, List.forall_mem_cons.mpr ⟨lw_p88, List.forall_mem_cons.mpr ⟨lw_p89, List.forall_mem_cons.mpr ⟨lw_p90, List.forall_mem_cons.mpr ⟨lw_p91, List.forall_mem_cons.mpr ⟨lw_p92, List.forall_mem_cons.mpr ⟨lw_p93, List.forall_mem_cons.mpr ⟨lw_p94, List.forall_mem_cons.mpr ⟨lw_p95, fun _ h => absurd h List.not_mem_nil⟩⟩⟩⟩⟩⟩⟩⟩⟩⟩⟩⟩⟩⟩⟩⟩
theorem lw_p96 : lw_okq (⟨"EatenTollModel", "oneSwallows", "(III)V"⟩, 88) := ⟨⟨by decide +kernel, by decide +kernel⟩, List.mem_of_getElem? (i := 1321) (by decide +kernel), List.mem_of_getElem? (i := 1870) (by decide +kernel), List.mem_of_getElem? (i := 1871) (by decide +kernel)⟩
theorem lw_p97 : lw_okq (⟨"EatenTollModel", "splits", "(III)I"⟩, 88) := ⟨⟨by decide +kernel, by decide +kernel⟩, List.mem_of_getElem? (i := 1321) (by decide +kernel), List.mem_of_getElem? (i := 1885) (by decide +kernel), List.mem_of_getElem? (i := 1886) (by decide +kernel)⟩
theorem lw_p98 : lw_okq (⟨"EatenTollModel", "isSet", "(I)Z"⟩, 88) := ⟨⟨by decide +kernel, by decide +kernel⟩, List.mem_of_getElem? (i := 1321) (by decide +kernel), List.mem_of_getElem? (i := 1902) (by decide +kernel), List.mem_of_getElem? (i := 1903) (by decide +kernel)⟩
theorem lw_p99 : lw_okq (⟨"EatenTollModel", "startsPlan", "()V"⟩, 88) := ⟨⟨by decide +kernel, by decide +kernel⟩, List.mem_of_getElem? (i := 1321) (by decide +kernel), List.mem_of_getElem? (i := 1906) (by decide +kernel), List.mem_of_getElem? (i := 1907) (by decide +kernel)⟩
theorem lw_p100 : lw_okq (⟨"EatenTollModel", "passMore", "(III)V"⟩, 88) := ⟨⟨by decide +kernel, by decide +kernel⟩, List.mem_of_getElem? (i := 1321) (by decide +kernel), List.mem_of_getElem? (i := 1911) (by decide +kernel), List.mem_of_getElem? (i := 1912) (by decide +kernel)⟩
theorem lw_p101 : lw_okq (⟨"EatenTollModel", "plans", "(III)V"⟩, 88) := ⟨⟨by decide +kernel, by decide +kernel⟩, List.mem_of_getElem? (i := 1321) (by decide +kernel), List.mem_of_getElem? (i := 1922) (by decide +kernel), List.mem_of_getElem? (i := 1923) (by decide +kernel)⟩
theorem lw_p102 : lw_okq (⟨"EatenTollModel", "gainBy", "(I)I"⟩, 88) := ⟨⟨by decide +kernel, by decide +kernel⟩, List.mem_of_getElem? (i := 1321) (by decide +kernel), List.mem_of_getElem? (i := 1938) (by decide +kernel), List.mem_of_getElem? (i := 1939) (by decide +kernel)⟩
theorem lw_p103 : lw_okq (⟨"EatenTollModel", "nextLaw", "()Z"⟩, 88) := ⟨⟨by decide +kernel, by decide +kernel⟩, List.mem_of_getElem? (i := 1321) (by decide +kernel), List.mem_of_getElem? (i := 1942) (by decide +kernel), List.mem_of_getElem? (i := 1943) (by decide +kernel)⟩
theorem lw_p104 : lw_okq (⟨"EatenTollModel", "goesOne", "(I)V"⟩, 88) := ⟨⟨by decide +kernel, by decide +kernel⟩, List.mem_of_getElem? (i := 1321) (by decide +kernel), List.mem_of_getElem? (i := 1950) (by decide +kernel), List.mem_of_getElem? (i := 1951) (by decide +kernel)⟩
theorem lw_p105 : lw_okq (⟨"EatenTollModel", "netOf", "(I)I"⟩, 88) := ⟨⟨by decide +kernel, by decide +kernel⟩, List.mem_of_getElem? (i := 1321) (by decide +kernel), List.mem_of_getElem? (i := 1958) (by decide +kernel), List.mem_of_getElem? (i := 1959) (by decide +kernel)⟩
theorem lw_p106 : lw_okq (⟨"EatenTollModel", "judges", "(II)I"⟩, 88) := ⟨⟨by decide +kernel, by decide +kernel⟩, List.mem_of_getElem? (i := 1321) (by decide +kernel), List.mem_of_getElem? (i := 1983) (by decide +kernel), List.mem_of_getElem? (i := 1984) (by decide +kernel)⟩
def lw_privs_7 : List (MethodName × Nat) := [(⟨"EatenTollModel", "oneSwallows", "(III)V"⟩, 88), (⟨"EatenTollModel", "splits", "(III)I"⟩, 88), (⟨"EatenTollModel", "isSet", "(I)Z"⟩, 88), (⟨"EatenTollModel", "startsPlan", "()V"⟩, 88), (⟨"EatenTollModel", "passMore", "(III)V"⟩, 88), (⟨"EatenTollModel", "plans", "(III)V"⟩, 88), (⟨"EatenTollModel", "gainBy", "(I)I"⟩, 88), (⟨"EatenTollModel", "nextLaw", "()Z"⟩, 88), (⟨"EatenTollModel", "goesOne", "(I)V"⟩, 88), (⟨"EatenTollModel", "netOf", "(I)I"⟩, 88), (⟨"EatenTollModel", "judges", "(II)I"⟩, 88)]
theorem lw_r7 : ∀ q ∈ lw_privs_7, lw_okq q := List.forall_mem_cons.mpr ⟨lw_p96, List.forall_mem_cons.mpr ⟨lw_p97, List.forall_mem_cons.mpr ⟨lw_p98, List.forall_mem_cons.mpr ⟨lw_p99, List.forall_mem_cons.mpr ⟨lw_p100, List.forall_mem_cons.mpr ⟨lw_p101, List.forall_mem_cons.mpr ⟨lw_p102, List.forall_mem_cons.mpr ⟨lw_p103, List.forall_mem_cons.mpr ⟨lw_p104, List.forall_mem_cons.mpr ⟨lw_p105, List.forall_mem_cons.mpr ⟨lw_p106, fun _ h => absurd h List.not_mem_nil⟩⟩⟩⟩⟩⟩⟩⟩⟩⟩⟩
def lw_privs : List (MethodName × Nat) := lw_privs_1 ++ (lw_privs_2 ++ (lw_privs_3 ++ (lw_privs_4 ++ (lw_privs_5 ++ (lw_privs_6 ++ (lw_privs_7))))))
def lw_tbl : List Cond := k2_sels lw_privs ++ tables_1
theorem lw_privs_ok : ∀ q ∈ lw_privs, lw_okq q := by
  show ∀ q ∈ lw_privs_1 ++ (lw_privs_2 ++ (lw_privs_3 ++ (lw_privs_4 ++ (lw_privs_5 ++ (lw_privs_6 ++ (lw_privs_7)))))), lw_okq q
  exact List.forall_mem_append.mpr ⟨lw_r1, List.forall_mem_append.mpr ⟨lw_r2, List.forall_mem_append.mpr ⟨lw_r3, List.forall_mem_append.mpr ⟨lw_r4, List.forall_mem_append.mpr ⟨lw_r5, List.forall_mem_append.mpr ⟨lw_r6, lw_r7⟩⟩⟩⟩⟩⟩
-- ===== end of PART A; then your names; then what follows =====
end
section
/-! THE ABSTRACT MACHINE: whole numbers as Int, cells by number, no addresses -/
abbrev am_V : Type := Int ⊕ (Int ⊕ Nat)
abbrev vI (x : Int) : am_V := .inl x
abbrev vJ (x : Int) : am_V := .inr (.inl x)
abbrev vP (k : Nat) : am_V := .inr (.inr k)
abbrev am_L : Type := List (Option am_V)
/-- a cell: kind (0 int[], 1 byte[], 2 boolean[], 3 long[], 4 + class), how many places, references (0: null) -/
abbrev am_C : Type := Nat × Nat × List Nat
/-- cells that are written, cells that are only read (numbered from 1000 on), what all hold -/
abbrev am_M : Type := List am_C × List am_C × (Nat → Nat → Int)
/-- an instruction: op, length, three numbers, an Int, locals that die ahead of it, targets -/
abbrev am_E : Type := Nat × Nat × Nat × Nat × Nat × Int × List Nat × List Nat
def w32 (x : Int) : Int := (x + 2147483648) % 4294967296 - 2147483648
def w64 (x : Int) : Int := (x + 9223372036854775808) % 18446744073709551616 - 9223372036854775808
def am_and (x y : Int) : Int := (Int32.ofInt x &&& Int32.ofInt y).toInt
def am_or (x y : Int) : Int := (Int32.ofInt x ||| Int32.ofInt y).toInt
def am_xor (x y : Int) : Int := (Int32.ofInt x ^^^ Int32.ofInt y).toInt
def am_shl (x y : Int) : Int := (Int32.ofInt x <<< (Int32.ofInt y &&& 31)).toInt
def am_shr (x y : Int) : Int := (Int32.ofInt x >>> (Int32.ofInt y &&& 31)).toInt
def am_ushr (x y : Int) : Int := ((Int32.ofInt x).toUInt32 >>> ((Int32.ofInt y).toUInt32 &&& Int32.toUInt32 31)).toInt32.toInt
def am_div (x y : Int) : Int := w32 (Int.tdiv x y)
def am_rem (x y : Int) : Int := w32 (x - am_div x y * y)
def am_bin (a : Nat) (x y : Int) : Int := match a with
  | 0 => w32 (x + y)
  | 1 => w32 (x - y)
  | 2 => w32 (x * y)
  | 3 => am_and x y
  | 4 => am_or x y
  | 5 => am_xor x y
  | 6 => am_shl x y
  | 7 => am_shr x y
  | _ => am_ushr x y
def am_lbin (a : Nat) (x y : Int) : Int := match a with
  | 0 => w64 (x + y)
  | _ => w64 (x * y)
def am_i2b (x : Int) : Int := (x + 128) % 256 - 128
def am_i2c (x : Int) : Int := x % 65536
def am_lcmp (x y : Int) : Int := if x < y then -1 else if x = y then 0 else 1
def am_cnd (a : Nat) (x y : Int) : Bool := match a with
  | 0 => decide (x = y)
  | 1 => decide (¬ x = y)
  | 2 => decide (x < y)
  | 3 => decide (y ≤ x)
  | 4 => decide (y < x)
  | _ => decide (x ≤ y)
def am_tag : am_V → Nat
  | .inl _ => 0
  | .inr (.inl _) => 1
  | .inr (.inr _) => 2
def am_cat (v : am_V) : Nat := if am_tag v = 1 then 2 else 1
def am_cats (S : List am_V) : Nat := (S.map am_cat).sum
def am_isJ : Option (Option am_V) → Bool
  | some (some (.inr (.inl _))) => true
  | _ => false
def am_st (L : am_L) (a : Nat) (v : am_V) : am_L :=
  let L1 := match a with
    | 0 => L
    | k + 1 => if am_isJ L[k]? then L.set k none else L
  if am_tag v = 1 then (L1.set a (some v)).set (a + 1) none else L1.set a (some v)
def am_kill (ks : List Nat) (L : am_L) : am_L := ks.foldl (fun L k => L.set k none) L
def am_ent0 : List am_V → am_L
  | [] => []
  | v :: vs => if am_tag v = 1 then some v :: none :: am_ent0 vs else some v :: am_ent0 vs
def am_ent (n : Nat) (vs : List am_V) : am_L := am_ent0 vs ++ List.replicate (n - (am_ent0 vs).length) none
def am_dsc (μ : am_M) (k : Nat) : Option am_C := if k < 1000 then μ.1[k]? else μ.2.1[k - 1000]?
def am_okT (t : Nat) (x : Int) : Bool := match t with
  | 0 => decide (-2147483648 ≤ x) && decide (x < 2147483648)
  | 1 => decide (-128 ≤ x) && decide (x < 128)
  | 2 => decide (0 ≤ x) && decide (x ≤ 1)
  | 3 => decide (-9223372036854775808 ≤ x) && decide (x < 9223372036854775808)
  | _ => true
def am_upd (σ : Nat → Nat → Int) (k j : Nat) (x : Int) : Nat → Nat → Int := fun a i => if a = k then (if i = j then x else σ a i) else σ a i
def am_row (σ : Nat → Nat → Int) (k : Nat) (f : Nat → Int) : Nat → Nat → Int := fun a i => if a = k then f i else σ a i
def am_cp (f g : Nat → Int) (sp dp n : Nat) : Nat → Int := fun k => if dp ≤ k ∧ k < dp + n then f (sp + (k - dp)) else g k
/-- the type of a field: 0 int, 2 boolean, 3 long, 4 a reference -/
def am_ft (ft : List (List Nat)) (ci j : Nat) : Nat := (ft.getD ci []).getD j 0
abbrev am_O : Type := Option (Nat × am_L × List am_V × am_M)
def am_sload (t a n : Nat) (L : am_L) (S : List am_V) (μ : am_M) : am_O := match L[a]? with
  | some (some v) => if am_tag v = t then some (n, L, v :: S, μ) else none
  | _ => none
def am_sstore (t a n : Nat) (L : am_L) (S : List am_V) (μ : am_M) : am_O := match S with
  | v :: S => if am_tag v = t ∧ a + am_cat v ≤ L.length then some (n, am_st L a v, S, μ) else none
  | _ => none
def am_sbin (a n : Nat) (L : am_L) (S : List am_V) (μ : am_M) : am_O := match S with
  | .inl y :: .inl x :: S => some (n, L, vI (am_bin a x y) :: S, μ)
  | _ => none
def am_sdiv (a n : Nat) (L : am_L) (S : List am_V) (μ : am_M) : am_O := match S with
  | .inl y :: .inl x :: S => if y = 0 then none else some (n, L, vI (if a = 0 then am_div x y else am_rem x y) :: S, μ)
  | _ => none
def am_sneg (n : Nat) (L : am_L) (S : List am_V) (μ : am_M) : am_O := match S with
  | .inl x :: S => some (n, L, vI (w32 (-x)) :: S, μ)
  | _ => none
def am_slbin (a n : Nat) (L : am_L) (S : List am_V) (μ : am_M) : am_O := match S with
  | .inr (.inl y) :: .inr (.inl x) :: S => some (n, L, vJ (am_lbin a x y) :: S, μ)
  | _ => none
def am_sconv (a n : Nat) (L : am_L) (S : List am_V) (μ : am_M) : am_O := match a, S with
  | 0, .inl x :: S => some (n, L, vJ x :: S, μ)
  | 1, .inr (.inl x) :: S => some (n, L, vI (w32 x) :: S, μ)
  | 2, .inl x :: S => some (n, L, vI (am_i2b x) :: S, μ)
  | 3, .inl x :: S => some (n, L, vI (am_i2c x) :: S, μ)
  | _, _ => none
def am_slcmp (n : Nat) (L : am_L) (S : List am_V) (μ : am_M) : am_O := match S with
  | .inr (.inl y) :: .inr (.inl x) :: S => some (n, L, vI (am_lcmp x y) :: S, μ)
  | _ => none
def am_sinc (a : Nat) (c : Int) (n : Nat) (L : am_L) (S : List am_V) (μ : am_M) : am_O := match L[a]? with
  | some (some (.inl x)) => some (n, am_st L a (vI (w32 (x + c))), S, μ)
  | _ => none
def am_sif (a tgt n : Nat) (L : am_L) (S : List am_V) (μ : am_M) : am_O := match S with
  | .inl x :: S => some (if am_cnd a x 0 then tgt else n, L, S, μ)
  | _ => none
def am_sicmp (a tgt n : Nat) (L : am_L) (S : List am_V) (μ : am_M) : am_O := match S with
  | .inl y :: .inl x :: S => some (if am_cnd a x y then tgt else n, L, S, μ)
  | _ => none
def am_stsw (dflt : Nat) (lo : Int) (offs : List Nat) (L : am_L) (S : List am_V) (μ : am_M) : am_O := match S with
  | .inl x :: S => if x < lo ∨ lo + (offs.length : Int) ≤ x then some (dflt, L, S, μ) else match offs[(x - lo).toNat]? with
    | some t => some (t, L, S, μ)
    | none => none
  | _ => none
def am_sdup (n : Nat) (L : am_L) (S : List am_V) (μ : am_M) : am_O := match S with
  | v :: S => if am_tag v = 1 then none else some (n, L, v :: v :: S, μ)
  | _ => none
def am_sdup2 (n : Nat) (L : am_L) (S : List am_V) (μ : am_M) : am_O := match S with
  | v :: u :: S => if am_tag v = 1 ∨ am_tag u = 1 then none else some (n, L, v :: u :: v :: u :: S, μ)
  | _ => none
def am_spop (n : Nat) (L : am_L) (S : List am_V) (μ : am_M) : am_O := match S with
  | v :: S => if am_tag v = 1 then none else some (n, L, S, μ)
  | _ => none
/-- what a field holds -/
def am_fget (ft : List (List Nat)) (σ : Nat → Nat → Int) (k ci j : Nat) (rs : List Nat) : Option am_V := match am_ft ft ci j with
  | 0 => some (vI (σ k j))
  | 1 => some (vI (σ k j))
  | 2 => some (vI (σ k j))
  | 3 => some (vJ (σ k j))
  | _ => match rs[j]? with
    | some (r + 1) => some (vP r)
    | _ => none
def am_sgetf (ft : List (List Nat)) (ci j n : Nat) (L : am_L) (S : List am_V) (μ : am_M) : am_O := match S with
  | .inr (.inr k) :: S => match am_dsc μ k with
    | some (kd, N, rs) => if kd = 4 + ci ∧ j < N then match am_fget ft μ.2.2 k ci j rs with
      | some v => some (n, L, v :: S, μ)
      | none => none
      else none
    | none => none
  | _ => none
def am_sputf (ft : List (List Nat)) (ci j n : Nat) (L : am_L) (S : List am_V) (μ : am_M) : am_O := match S with
  | .inl x :: .inr (.inr k) :: S => match μ.1[k]? with
    | some (kd, N, _) => if kd = 4 + ci ∧ j < N ∧ (am_ft ft ci j = 0 ∨ am_ft ft ci j = 2) ∧ am_okT (am_ft ft ci j) x = true then some (n, L, S, (μ.1, μ.2.1, am_upd μ.2.2 k j x)) else none
    | none => none
  | .inr (.inl x) :: .inr (.inr k) :: S => match μ.1[k]? with
    | some (kd, N, _) => if kd = 4 + ci ∧ j < N ∧ am_ft ft ci j = 3 then some (n, L, S, (μ.1, μ.2.1, am_upd μ.2.2 k j x)) else none
    | none => none
  | .inr (.inr r) :: .inr (.inr k) :: S => match μ.1[k]? with
    | some (kd, N, rs) => if kd = 4 + ci ∧ j < N ∧ am_ft ft ci j = 4 ∧ rs.length = N then some (n, L, S, (μ.1.set k (kd, N, rs.set j (r + 1)), μ.2.1, μ.2.2)) else none
    | none => none
  | _ => none
def am_sgets (a n : Nat) (L : am_L) (S : List am_V) (μ : am_M) : am_O := match a with
  | 0 => some (n, L, vP 1001 :: S, μ)
  | 1 => some (n, L, vI 1 :: S, μ)
  | _ => none
def am_sald (a n : Nat) (L : am_L) (S : List am_V) (μ : am_M) : am_O := match S with
  | .inl i :: .inr (.inr k) :: S => match am_dsc μ k with
    | some (kd, N, _) => if kd = a ∧ 0 ≤ i ∧ i < (N : Int) then some (n, L, (if a = 3 then vJ (μ.2.2 k i.toNat) else vI (μ.2.2 k i.toNat)) :: S, μ) else none
    | none => none
  | _ => none
def am_sast (a n : Nat) (L : am_L) (S : List am_V) (μ : am_M) : am_O := match S with
  | .inl x :: .inl i :: .inr (.inr k) :: S => match μ.1[k]? with
    | some (kd, N, _) => if kd = a ∧ a < 3 ∧ 0 ≤ i ∧ i < (N : Int) ∧ am_okT a x = true then some (n, L, S, (μ.1, μ.2.1, am_upd μ.2.2 k i.toNat x)) else none
    | none => none
  | .inr (.inl x) :: .inl i :: .inr (.inr k) :: S => match μ.1[k]? with
    | some (kd, N, _) => if kd = a ∧ a = 3 ∧ 0 ≤ i ∧ i < (N : Int) then some (n, L, S, (μ.1, μ.2.1, am_upd μ.2.2 k i.toNat x)) else none
    | none => none
  | _ => none
def am_salen (n : Nat) (L : am_L) (S : List am_V) (μ : am_M) : am_O := match S with
  | .inr (.inr k) :: S => match am_dsc μ k with
    | some (kd, N, _) => if kd < 4 ∧ N < 2147483648 then some (n, L, vI N :: S, μ) else none
    | none => none
  | _ => none
def am_snew (ci N n : Nat) (L : am_L) (S : List am_V) (μ : am_M) : am_O :=
  if μ.1.length < 1000 then some (n, L, vP μ.1.length :: S, (μ.1 ++ [(4 + ci, N, List.replicate N 0)], μ.2.1, am_row μ.2.2 μ.1.length (fun _ => 0))) else none
def am_snewa (a n : Nat) (L : am_L) (S : List am_V) (μ : am_M) : am_O := match S with
  | .inl i :: S => if μ.1.length < 1000 ∧ a < 4 ∧ 0 ≤ i ∧ i < 100000 then some (n, L, vP μ.1.length :: S, (μ.1 ++ [(a, i.toNat, [])], μ.2.1, am_row μ.2.2 μ.1.length (fun _ => 0))) else none
  | _ => none
def am_scopy (a n : Nat) (L : am_L) (S : List am_V) (μ : am_M) : am_O := match S with
  | .inl m :: .inl dp :: .inr (.inr k1) :: .inl sp :: .inr (.inr k0) :: S => match μ.1[k0]?, μ.1[k1]? with
    | some (kd0, N0, _), some (kd1, N1, _) => if kd0 = a ∧ kd1 = a ∧ (a = 0 ∨ a = 3) ∧ 0 ≤ m ∧ 0 ≤ dp ∧ 0 ≤ sp ∧ sp + m ≤ (N0 : Int) ∧ dp + m ≤ (N1 : Int) ∧ am_cats S ≤ 8 then some (n, L, S, (μ.1, μ.2.1, am_row μ.2.2 k1 (am_cp (μ.2.2 k0) (μ.2.2 k1) sp.toNat dp.toNat m.toNat))) else none
    | _, _ => none
  | _ => none
def am_smath (a n : Nat) (L : am_L) (S : List am_V) (μ : am_M) : am_O := match a, S with
  | 0, .inl y :: .inl x :: S => if am_cats S ≤ 8 then some (n, L, vI (if x < y then y else x) :: S, μ) else none
  | 1, .inl y :: .inl x :: S => if am_cats S ≤ 8 then some (n, L, vI (if y < x then y else x) :: S, μ) else none
  | 2, .inl x :: S => if am_cats S ≤ 8 then some (n, L, vI (if 0 ≤ x then x else w32 (0 - x)) :: S, μ) else none
  | _, _ => none
def am_soinit (n : Nat) (L : am_L) (S : List am_V) (μ : am_M) : am_O := match S with
  | .inr (.inr _) :: S => if am_cats S ≤ 8 then some (n, L, S, μ) else none
  | _ => none
/-- one instruction that is no call and no return -/
def am_step (ft : List (List Nat)) (e : am_E) (pc : Nat) (L : am_L) (S : List am_V) (μ : am_M) : am_O := match e with
  | (op, len, a, b, d, c, _, offs) => match op with
    | 0 => am_sload 0 a (pc + len) L S μ
    | 1 => am_sload 1 a (pc + len) L S μ
    | 2 => am_sload 2 a (pc + len) L S μ
    | 3 => am_sstore 0 a (pc + len) L S μ
    | 4 => am_sstore 1 a (pc + len) L S μ
    | 5 => am_sstore 2 a (pc + len) L S μ
    | 6 => some (pc + len, L, vI c :: S, μ)
    | 7 => some (pc + len, L, vJ c :: S, μ)
    | 8 => am_sbin a (pc + len) L S μ
    | 9 => am_sdiv 0 (pc + len) L S μ
    | 10 => am_sdiv 1 (pc + len) L S μ
    | 11 => am_sneg (pc + len) L S μ
    | 12 => am_slbin a (pc + len) L S μ
    | 13 => am_sconv a (pc + len) L S μ
    | 14 => am_slcmp (pc + len) L S μ
    | 15 => am_sinc a c (pc + len) L S μ
    | 16 => am_sif a b (pc + len) L S μ
    | 17 => am_sicmp a b (pc + len) L S μ
    | 18 => some (b, L, S, μ)
    | 19 => am_stsw b c offs L S μ
    | 20 => am_sdup (pc + len) L S μ
    | 21 => am_sdup2 (pc + len) L S μ
    | 22 => am_spop (pc + len) L S μ
    | 23 => am_sgetf ft a b (pc + len) L S μ
    | 24 => am_sputf ft a b (pc + len) L S μ
    | 25 => am_sgets a (pc + len) L S μ
    | 26 => am_sald a (pc + len) L S μ
    | 27 => am_sast a (pc + len) L S μ
    | 28 => am_salen (pc + len) L S μ
    | 31 => am_snew a b (pc + len) L S μ
    | 32 => am_snewa a (pc + len) L S μ
    | 33 => am_scopy a (pc + len) L S μ
    | 34 => am_smath a (pc + len) L S μ
    | 37 => am_soinit (pc + len) L S μ
    | 38 => some (pc + len, L, vP (1002 + a) :: S, μ)
    | _ => none
/-- may this be called so: a receiver of the class told, room on the stack -/
def am_recvOk (c : Int) (d : Nat) (μ : am_M) (vs : List am_V) : Bool :=
  if c = 1 then true else match vs with
  | .inr (.inr k) :: _ => match am_dsc μ k with
    | some (kd, _, _) => decide (kd = 4 + d)
    | none => false
  | _ => false
/-- the answer that a return gives -/
def am_ret (a : Nat) (S : List am_V) : Option (Option am_V) := match a, S with
  | 0, [] => some none
  | 1, [.inl x] => some (some (vI x))
  | 3, [.inl x] => if am_okT 2 x then some (some (vI x)) else none
  | 4, [.inl x] => if am_okT 1 x then some (some (vI x)) else none
  | 5, [.inl x] => if 0 ≤ x ∧ x < 65536 then some (some (vI x)) else none
  | 2, [.inr (.inl x)] => some (some (vJ x))
  | _, _ => none
def am_run (ft : List (List Nat)) (mL : Nat → Nat) (code : Nat → Nat → Option am_E) : Nat → Nat → Nat → am_L → List am_V → am_M → Option (Option am_V × am_M)
  | 0, _, _, _, _, _ => none
  | n + 1, mid, pc, L, S, μ => match code mid pc with
    | none => none
    | some (op, len, a, b, d, c, ks, offs) =>
      if op = 29 then
        if b ≤ S.length ∧ (am_ent0 (S.take b).reverse).length ≤ mL a ∧ am_cats (S.drop b) ≤ 8 ∧ am_recvOk c d μ (S.take b).reverse = true then
          match am_run ft mL code n a 0 (am_ent (mL a) (S.take b).reverse) [] μ with
          | none => none
          | some (r, μ') => am_run ft mL code n mid (pc + len) (am_kill ks L) (r.toList ++ S.drop b) μ'
        else none
      else if op = 30 then
        match am_ret a S with
        | none => none
        | some r => some (r, μ)
      else match am_step ft (op, len, a, b, d, c, ks, offs) pc (am_kill ks L) S μ with
        | none => none
        | some (pc', L', S', μ') => am_run ft mL code n mid pc' L' S' μ'
end
section
/-! numbers: Int beside Int32, Int64 -/
theorem am_w32_rng (x : Int) : -2147483648 ≤ w32 x ∧ w32 x < 2147483648 := by unfold w32; omega
theorem am_w64_rng (x : Int) : -9223372036854775808 ≤ w64 x ∧ w64 x < 9223372036854775808 := by unfold w64; omega
theorem w32_id {x : Int} (h1 : -2147483648 ≤ x) (h2 : x < 2147483648) : w32 x = x := by unfold w32; omega
theorem w64_id {x : Int} (h1 : -9223372036854775808 ≤ x) (h2 : x < 9223372036854775808) : w64 x = x := by unfold w64; omega
theorem am_w32_bmod (x : Int) : w32 x = x.bmod (2 ^ 32) := by
  unfold w32
  simp only [Int.bmod_def]
  omega
theorem am_w64_bmod (x : Int) : w64 x = x.bmod (2 ^ 64) := by
  unfold w64
  simp only [Int.bmod_def]
  omega
theorem am_of_w32 (x : Int) : Int32.ofInt (w32 x) = Int32.ofInt x := by
  apply Int32.toInt_inj.1
  rw [Int32.toInt_ofInt, Int32.toInt_ofInt, am_w32_bmod, Int.bmod_bmod]
theorem am_of_w64 (x : Int) : Int64.ofInt (w64 x) = Int64.ofInt x := by
  apply Int64.toInt_inj.1
  rw [Int64.toInt_ofInt, Int64.toInt_ofInt, am_w64_bmod, Int.bmod_bmod]
theorem am_toI {x : Int} (h : -2147483648 ≤ x ∧ x < 2147483648) : (Int32.ofInt x).toInt = x := by
  rw [Int32.toInt_ofInt, ← am_w32_bmod, w32_id h.1 h.2]
theorem am_toL {x : Int} (h : -9223372036854775808 ≤ x ∧ x < 9223372036854775808) : (Int64.ofInt x).toInt = x := by
  rw [Int64.toInt_ofInt, ← am_w64_bmod, w64_id h.1 h.2]
theorem am_rng (x : Int32) : -2147483648 ≤ x.toInt ∧ x.toInt < 2147483648 := by
  have h1 := Int32.le_toInt x
  have h2 := Int32.toInt_lt x
  omega
theorem am_ofT (x : Int32) : Int32.ofInt x.toInt = x := Int32.ofInt_toInt x
theorem am_oadd (x y : Int) : Int32.ofInt (w32 (x + y)) = Int32.ofInt x + Int32.ofInt y := by rw [am_of_w32, Int32.ofInt_add]
theorem am_osub (x y : Int) : Int32.ofInt (w32 (x - y)) = Int32.ofInt x - Int32.ofInt y := by rw [am_of_w32, Int32.ofInt_sub]
theorem am_omul (x y : Int) : Int32.ofInt (w32 (x * y)) = Int32.ofInt x * Int32.ofInt y := by rw [am_of_w32, Int32.ofInt_mul]
theorem am_oneg (x : Int) : Int32.ofInt (w32 (-x)) = -Int32.ofInt x := by rw [am_of_w32, Int32.ofInt_neg]
theorem am_oladd (x y : Int) : Int64.ofInt (w64 (x + y)) = Int64.ofInt x + Int64.ofInt y := by rw [am_of_w64, Int64.ofInt_add]
theorem am_olmul (x y : Int) : Int64.ofInt (w64 (x * y)) = Int64.ofInt x * Int64.ofInt y := by rw [am_of_w64, Int64.ofInt_mul]
theorem am_olt {x y : Int} (hx : -2147483648 ≤ x ∧ x < 2147483648) (hy : -2147483648 ≤ y ∧ y < 2147483648) : Int32.ofInt x < Int32.ofInt y ↔ x < y := by
  rw [Int32.lt_iff_toInt_lt, am_toI hx, am_toI hy]
theorem am_ole {x y : Int} (hx : -2147483648 ≤ x ∧ x < 2147483648) (hy : -2147483648 ≤ y ∧ y < 2147483648) : Int32.ofInt x ≤ Int32.ofInt y ↔ x ≤ y := by
  rw [Int32.le_iff_toInt_le, am_toI hx, am_toI hy]
theorem am_oeq {x y : Int} (hx : -2147483648 ≤ x ∧ x < 2147483648) (hy : -2147483648 ≤ y ∧ y < 2147483648) : Int32.ofInt x = Int32.ofInt y ↔ x = y := by
  rw [← Int32.toInt_inj, am_toI hx, am_toI hy]
theorem am_o0 : Int32.ofInt 0 = 0 := rfl
theorem am_odiv {x y : Int} (hx : -2147483648 ≤ x ∧ x < 2147483648) (hy : -2147483648 ≤ y ∧ y < 2147483648) : Int32.ofInt (am_div x y) = Int32.ofInt x / Int32.ofInt y := by
  apply Int32.toInt_inj.1
  unfold am_div
  rw [am_of_w32, Int32.toInt_ofInt, Int32.toInt_div, am_toI hx, am_toI hy]
theorem am_orem {x y : Int} (hx : -2147483648 ≤ x ∧ x < 2147483648) (hy : -2147483648 ≤ y ∧ y < 2147483648) : Int32.ofInt (am_rem x y) = Int32.ofInt x - Int32.ofInt x / Int32.ofInt y * Int32.ofInt y := by
  unfold am_rem
  rw [am_osub, Int32.ofInt_mul, am_odiv hx hy]
theorem am_oi2b {x : Int} (hx : -2147483648 ≤ x ∧ x < 2147483648) : (Int32.ofInt x).toInt8.toInt32 = Int32.ofInt (am_i2b x) := by
  apply Int32.toInt_inj.1
  rw [Int8.toInt_toInt32, Int32.toInt_toInt8, am_toI hx, am_toI (by unfold am_i2b; omega)]
  unfold am_i2b
  simp only [Int.bmod_def]
  omega
theorem am_nI (n : Nat) : nI n = Int32.ofInt (n : Int) := by
  unfold nI
  apply Int32.toInt_inj.1
  rw [Int32.toInt_ofInt, Int32.toInt_ofNat']
theorem am_oi2c {x : Int} (hx : -2147483648 ≤ x ∧ x < 2147483648) : ((Int32.ofInt x).toUInt32 % 65536).toInt32 = Int32.ofInt (am_i2c x) := by
  rw [pk_char, am_nI]
  congr 1
  unfold am_i2c
  have h : (Int32.ofInt x).toBitVec = BitVec.ofInt 32 x := rfl
  rw [h, BitVec.toNat_ofInt]
  omega
theorem am_oi2l {x : Int} (hx : -2147483648 ≤ x ∧ x < 2147483648) : (Int32.ofInt x).toInt64 = Int64.ofInt x := by
  apply Int64.toInt_inj.1
  rw [Int32.toInt_toInt64, am_toI hx, am_toL (by omega)]
theorem am_ol2i {x : Int} (hx : -9223372036854775808 ≤ x ∧ x < 9223372036854775808) : (Int64.ofInt x).toInt32 = Int32.ofInt (w32 x) := by
  apply Int32.toInt_inj.1
  rw [Int64.toInt_toInt32, am_toL hx, am_of_w32, Int32.toInt_ofInt]
theorem am_olcmp {x y : Int} (hx : -9223372036854775808 ≤ x ∧ x < 9223372036854775808) (hy : -9223372036854775808 ≤ y ∧ y < 9223372036854775808) : lg_cmp (Int64.ofInt x) (Int64.ofInt y) = Int32.ofInt (am_lcmp x y) := by
  unfold lg_cmp am_lcmp
  simp only [gt_iff_lt, Int64.lt_iff_toInt_lt, ← Int64.toInt_inj, am_toL hx, am_toL hy]
  rcases Int.lt_trichotomy x y with h | h | h
  · rw [if_neg (by omega), if_neg (by omega), if_pos h]; rfl
  · rw [if_neg (by omega), if_pos h, if_neg (by omega), if_pos h]; rfl
  · rw [if_pos h, if_neg (by omega), if_neg (by omega)]; rfl
theorem am_oin {i : Int} (hi : -2147483648 ≤ i ∧ i < 2147483648) {n : Nat} (h0 : 0 ≤ i) (h1 : i < (n : Int)) : vp_in (Int32.ofInt i) n := vp_in_iff.mpr (by rw [am_toI hi]; exact ⟨h0, h1⟩)
theorem am_ocl {i : Int} (hi : -2147483648 ≤ i ∧ i < 2147483648) : (Int32.ofInt i).toNatClampNeg = i.toNat := by
  show (Int32.ofInt i).toInt.toNat = i.toNat
  rw [am_toI hi]
theorem am_obin (a : Nat) (x y : Int) : -2147483648 ≤ am_bin a x y ∧ am_bin a x y < 2147483648 := by
  unfold am_bin
  split
  · exact am_w32_rng _
  · exact am_w32_rng _
  · exact am_w32_rng _
  · exact am_rng _
  · exact am_rng _
  · exact am_rng _
  · exact am_rng _
  · exact am_rng _
  · exact am_rng _
end
section
/-! what holds of every state of the abstract machine -/
def am_okV (n : Nat) : am_V → Prop
  | .inl x => -2147483648 ≤ x ∧ x < 2147483648
  | .inr (.inl x) => -9223372036854775808 ≤ x ∧ x < 9223372036854775808
  | .inr (.inr k) => k < n ∨ 1000 ≤ k
def am_tyc (ft : List (List Nat)) (c : am_C) (j : Nat) : Nat := if c.1 < 4 then c.1 else am_ft ft (c.1 - 4) j
def am_R (ft : List (List Nat)) (μ : am_M) : Prop := μ.1.length ≤ 1000 ∧ ∀ (k : Nat) (c : am_C), am_dsc μ k = some c → (∀ j, am_okT (am_tyc ft c j) (μ.2.2 k j) = true) ∧ ∀ j r : Nat, c.2.2[j]? = some (r + 1) → (r < μ.1.length ∨ 1000 ≤ r)
def am_sl (μ : am_M) : Nat := (μ.1.map (fun c => c.2.1)).sum
def am_I (ft : List (List Nat)) (μ : am_M) (L : am_L) (S : List am_V) : Prop := am_R ft μ ∧ (∀ v, some v ∈ L → am_okV μ.1.length v) ∧ ∀ v ∈ S, am_okV μ.1.length v
def am_G (μ μ' : am_M) : Prop := μ.1.length ≤ μ'.1.length ∧ am_sl μ ≤ am_sl μ' ∧ μ'.2.1 = μ.2.1
theorem am_G.rf {μ : am_M} : am_G μ μ := ⟨Nat.le_refl _, Nat.le_refl _, rfl⟩
theorem am_G.tr {a b c : am_M} (h : am_G a b) (k : am_G b c) : am_G a c := ⟨Nat.le_trans h.1 k.1, Nat.le_trans h.2.1 k.2.1, k.2.2.trans h.2.2⟩
theorem am_okV.mono {n m : Nat} (h : n ≤ m) {v : am_V} (k : am_okV n v) : am_okV m v := by
  match v, k with
  | .inl _, k => exact k
  | .inr (.inl _), k => exact k
  | .inr (.inr _), k => exact k.elim (fun z => Or.inl (Nat.lt_of_lt_of_le z h)) Or.inr
theorem am_I.push {ft : List (List Nat)} {μ : am_M} {L : am_L} {S : List am_V} {v : am_V} (I : am_I ft μ L S) (h : am_okV μ.1.length v) : am_I ft μ L (v :: S) :=
  ⟨I.1, I.2.1, fun u hu => (List.mem_cons.mp hu).elim (fun e => e ▸ h) (I.2.2 u)⟩
theorem am_I.pop {ft : List (List Nat)} {μ : am_M} {L : am_L} {S : List am_V} {v : am_V} (I : am_I ft μ L (v :: S)) : am_I ft μ L S := ⟨I.1, I.2.1, fun u hu => I.2.2 u (List.mem_cons_of_mem _ hu)⟩
theorem am_I.top {ft : List (List Nat)} {μ : am_M} {L : am_L} {S : List am_V} {v : am_V} (I : am_I ft μ L (v :: S)) : am_okV μ.1.length v := I.2.2 v List.mem_cons_self
theorem am_I.loc {ft : List (List Nat)} {μ : am_M} {L : am_L} {S : List am_V} {v : am_V} {a : Nat} (I : am_I ft μ L S) (h : L[a]? = some (some v)) : am_okV μ.1.length v := I.2.1 v (List.mem_of_getElem? h)
theorem am_mem_set {L : am_L} {a : Nat} {x : Option am_V} {v : am_V} (h : some v ∈ L.set a x) : x = some v ∨ some v ∈ L := by
  rcases List.mem_or_eq_of_mem_set h with h | h
  · exact Or.inr h
  · exact Or.inl h.symm
theorem am_mem_st {L : am_L} {a : Nat} {x v : am_V} (h : some v ∈ am_st L a x) : v = x ∨ some v ∈ L := by
  have key : ∀ L1 : am_L, (some v ∈ L1 → some v ∈ L) → some v ∈ (if am_tag x = 1 then (L1.set a (some x)).set (a + 1) none else L1.set a (some x)) → v = x ∨ some v ∈ L := by
    intro L1 h1 h2
    split at h2
    · rcases am_mem_set h2 with h3 | h3
      · cases h3
      · rcases am_mem_set h3 with h4 | h4
        · exact Or.inl (Option.some.inj h4).symm
        · exact Or.inr (h1 h4)
    · rcases am_mem_set h2 with h4 | h4
      · exact Or.inl (Option.some.inj h4).symm
      · exact Or.inr (h1 h4)
  unfold am_st at h
  match a, h with
  | 0, h => exact key L (fun z => z) h
  | k + 1, h =>
    refine key (if am_isJ L[k]? = true then L.set k none else L) ?_ h
    intro z
    by_cases hj : am_isJ L[k]? = true
    · rw [if_pos hj] at z
      rcases am_mem_set z with h3 | h3
      · cases h3
      · exact h3
    · rw [if_neg hj] at z
      exact z
theorem am_I.store {ft : List (List Nat)} {μ : am_M} {L : am_L} {S : List am_V} {v : am_V} {a : Nat} (I : am_I ft μ L S) (h : am_okV μ.1.length v) : am_I ft μ (am_st L a v) S :=
  ⟨I.1, fun u hu => (am_mem_st hu).elim (fun e => e ▸ h) (I.2.1 u), I.2.2⟩
theorem am_mem_kill {ks : List Nat} {v : am_V} : ∀ {L : am_L}, some v ∈ am_kill ks L → some v ∈ L := by
  induction ks with
  | nil => intro L h; exact h
  | cons k ks ih =>
    intro L h
    rcases am_mem_set (ih (L := L.set k none) h) with z | z
    · cases z
    · exact z
theorem am_I.kill {ft : List (List Nat)} {μ : am_M} {L : am_L} {S : List am_V} (I : am_I ft μ L S) (ks : List Nat) : am_I ft μ (am_kill ks L) S := ⟨I.1, fun v h => I.2.1 v (am_mem_kill h), I.2.2⟩
theorem am_okT32 {t : Nat} {x : Int} (ht : t < 3) (h : am_okT t x = true) : -2147483648 ≤ x ∧ x < 2147483648 := by
  match t, ht, h with
  | 0, _, h => simpa [am_okT] using h
  | 1, _, h => simp [am_okT] at h; omega
  | 2, _, h => simp [am_okT] at h; omega
theorem am_okT64 {x : Int} (h : am_okT 3 x = true) : -9223372036854775808 ≤ x ∧ x < 9223372036854775808 := by simpa [am_okT] using h
theorem am_okT0 {t : Nat} : am_okT t 0 = true := by
  unfold am_okT
  split <;> simp
theorem am_dsc_rw {μ : am_M} (hl : μ.1.length ≤ 1000) {k : Nat} {c : am_C} (h : μ.1[k]? = some c) : am_dsc μ k = some c := by
  have hk : k < μ.1.length := (List.getElem?_eq_some_iff.mp h).1
  unfold am_dsc
  rw [if_pos (by omega)]
  exact h
/-- a place is written -/
theorem am_R.upd {ft : List (List Nat)} {μ : am_M} (I : am_R ft μ) {k j : Nat} {x : Int} {c : am_C} (h : am_dsc μ k = some c) (hx : am_okT (am_tyc ft c j) x = true) : am_R ft (μ.1, μ.2.1, am_upd μ.2.2 k j x) := by
  refine ⟨I.1, fun k' c' h' => ⟨fun i => ?_, (I.2 k' c' h').2⟩⟩
  show am_okT _ (am_upd μ.2.2 k j x k' i) = true
  unfold am_upd
  split
  next e =>
    subst e
    have ec : c' = c := Option.some.inj ((show am_dsc μ k' = some c' from h').symm.trans h)
    subst ec
    split
    next e => subst e; exact hx
    next => exact (I.2 k' c' h').1 i
  next => exact (I.2 k' c' h').1 i
theorem am_R.row {ft : List (List Nat)} {μ : am_M} (I : am_R ft μ) {k : Nat} {f : Nat → Int} {c : am_C} (h : am_dsc μ k = some c) (hx : ∀ j, am_okT (am_tyc ft c j) (f j) = true) : am_R ft (μ.1, μ.2.1, am_row μ.2.2 k f) := by
  refine ⟨I.1, fun k' c' h' => ⟨fun i => ?_, (I.2 k' c' h').2⟩⟩
  show am_okT _ (am_row μ.2.2 k f k' i) = true
  unfold am_row
  split
  next e =>
    subst e
    have ec : c' = c := Option.some.inj ((show am_dsc μ k' = some c' from h').symm.trans h)
    subst ec
    exact hx i
  next => exact (I.2 k' c' h').1 i
/-- a new cell -/
theorem am_R.new {ft : List (List Nat)} {μ : am_M} (I : am_R ft μ) (hl : μ.1.length < 1000) (c : am_C) (hr : ∀ j r : Nat, c.2.2[j]? ≠ some (r + 1)) : am_R ft (μ.1 ++ [c], μ.2.1, am_row μ.2.2 μ.1.length (fun _ => 0)) := by
  refine ⟨by simp; omega, fun k' c' h' => ?_⟩
  have hlen : (μ.1 ++ [c]).length = μ.1.length + 1 := by simp
  have old : ∀ (z : am_dsc μ k' = some c') (hk : k' ≠ μ.1.length), (∀ j, am_okT (am_tyc ft c' j) (am_row μ.2.2 μ.1.length (fun _ => 0) k' j) = true) ∧ ∀ j r : Nat, c'.2.2[j]? = some (r + 1) → (r < (μ.1 ++ [c]).length ∨ 1000 ≤ r) := by
    intro z hk
    refine ⟨fun j => ?_, fun j r h => ?_⟩
    · unfold am_row
      rw [if_neg hk]
      exact (I.2 k' c' z).1 j
    · rcases (I.2 k' c' z).2 j r h with q | q
      · exact Or.inl (by rw [hlen]; omega)
      · exact Or.inr q
  unfold am_dsc at h'
  split at h'
  next hk =>
    by_cases hlt : k' < μ.1.length
    · refine old ?_ (by omega)
      unfold am_dsc
      rw [if_pos hk]
      exact (List.getElem?_append_left hlt).symm.trans h'
    · have h2 : (μ.1 ++ [c])[k']? = some c' := h'
      have hk2 : k' < μ.1.length + 1 := by rw [← hlen]; exact (List.getElem?_eq_some_iff.mp h2).1
      have e : k' = μ.1.length := by omega
      subst e
      have ec : c = c' := by simpa using h2
      subst ec
      refine ⟨fun j => ?_, fun j r h => absurd h (hr j r)⟩
      show am_okT _ (am_row μ.2.2 μ.1.length (fun _ => 0) μ.1.length j) = true
      unfold am_row
      rw [if_pos rfl]
      exact am_okT0
  next hk =>
    refine old ?_ (by omega)
    unfold am_dsc
    rw [if_neg hk]
    exact h'
theorem am_sl_new {μ : am_M} {c : am_C} {r : List am_C} {σ : Nat → Nat → Int} : am_sl (μ.1 ++ [c], r, σ) = am_sl μ + c.2.1 := by
  unfold am_sl
  simp
theorem am_sl_set {l : List am_C} {k : Nat} {c c' : am_C} (h : l[k]? = some c) (e : c'.2.1 = c.2.1) : ((l.set k c').map (fun c => c.2.1)) = l.map (fun c => c.2.1) := by
  apply List.ext_getElem?
  intro i
  rw [List.getElem?_map, List.getElem?_map]
  by_cases hi : i = k
  · subst hi
    rw [List.getElem?_set_self (List.getElem?_eq_some_iff.mp h).1, h]
    simp [e]
  · rw [List.getElem?_set_ne (Ne.symm hi)]
/-- one instruction keeps all that -/
def am_okc (e : am_E) : Prop := (e.1 = 6 → -2147483648 ≤ e.2.2.2.2.2.1 ∧ e.2.2.2.2.2.1 < 2147483648) ∧ (e.1 = 7 → -9223372036854775808 ≤ e.2.2.2.2.2.1 ∧ e.2.2.2.2.2.1 < 9223372036854775808)
section PRES
variable {ft : List (List Nat)} {μ μ' : am_M} {L L' : am_L} {S S' : List am_V} {pc' n t a b : Nat}
theorem am_p_load (h : am_sload t a n L S μ = some (pc', L', S', μ')) (I : am_I ft μ L S) : am_I ft μ' L' S' ∧ am_G μ μ' := by
  unfold am_sload at h
  split at h
  next v hv =>
    split at h
    next =>
      simp only [Option.some.injEq, Prod.mk.injEq] at h
      obtain ⟨-, rfl, rfl, rfl⟩ := h
      exact ⟨I.push (I.loc hv), am_G.rf⟩
    next => cases h
  next => cases h
theorem am_p_store (h : am_sstore t a n L S μ = some (pc', L', S', μ')) (I : am_I ft μ L S) : am_I ft μ' L' S' ∧ am_G μ μ' := by
  unfold am_sstore at h
  split at h
  next v S1 =>
    split at h
    next =>
      simp only [Option.some.injEq, Prod.mk.injEq] at h
      obtain ⟨-, rfl, rfl, rfl⟩ := h
      exact ⟨I.pop.store I.top, am_G.rf⟩
    next => cases h
  next => cases h
theorem am_p_bin (h : am_sbin a n L S μ = some (pc', L', S', μ')) (I : am_I ft μ L S) : am_I ft μ' L' S' ∧ am_G μ μ' := by
  unfold am_sbin at h
  split at h
  next =>
    simp only [Option.some.injEq, Prod.mk.injEq] at h
    obtain ⟨-, rfl, rfl, rfl⟩ := h
    exact ⟨I.pop.pop.push (am_obin _ _ _), am_G.rf⟩
  next => cases h
theorem am_p_div (h : am_sdiv a n L S μ = some (pc', L', S', μ')) (I : am_I ft μ L S) : am_I ft μ' L' S' ∧ am_G μ μ' := by
  unfold am_sdiv at h
  split at h
  next =>
    split at h
    next => cases h
    next =>
      simp only [Option.some.injEq, Prod.mk.injEq] at h
      obtain ⟨-, rfl, rfl, rfl⟩ := h
      refine ⟨I.pop.pop.push ?_, am_G.rf⟩
      split
      · exact am_w32_rng _
      · exact am_w32_rng _
  next => cases h
theorem am_p_neg (h : am_sneg n L S μ = some (pc', L', S', μ')) (I : am_I ft μ L S) : am_I ft μ' L' S' ∧ am_G μ μ' := by
  unfold am_sneg at h
  split at h
  next =>
    simp only [Option.some.injEq, Prod.mk.injEq] at h
    obtain ⟨-, rfl, rfl, rfl⟩ := h
    exact ⟨I.pop.push (am_w32_rng _), am_G.rf⟩
  next => cases h
theorem am_p_lbin (h : am_slbin a n L S μ = some (pc', L', S', μ')) (I : am_I ft μ L S) : am_I ft μ' L' S' ∧ am_G μ μ' := by
  unfold am_slbin at h
  split at h
  next =>
    simp only [Option.some.injEq, Prod.mk.injEq] at h
    obtain ⟨-, rfl, rfl, rfl⟩ := h
    refine ⟨I.pop.pop.push ?_, am_G.rf⟩
    show -9223372036854775808 ≤ am_lbin a _ _ ∧ am_lbin a _ _ < 9223372036854775808
    unfold am_lbin
    split
    · exact am_w64_rng _
    · exact am_w64_rng _
  next => cases h
theorem am_p_conv (h : am_sconv a n L S μ = some (pc', L', S', μ')) (I : am_I ft μ L S) : am_I ft μ' L' S' ∧ am_G μ μ' := by
  unfold am_sconv at h
  split at h
  next =>
    simp only [Option.some.injEq, Prod.mk.injEq] at h
    obtain ⟨-, rfl, rfl, rfl⟩ := h
    have := I.top
    refine ⟨I.pop.push ?_, am_G.rf⟩
    simp only [am_okV] at this ⊢
    omega
  next =>
    simp only [Option.some.injEq, Prod.mk.injEq] at h
    obtain ⟨-, rfl, rfl, rfl⟩ := h
    exact ⟨I.pop.push (am_w32_rng _), am_G.rf⟩
  next =>
    simp only [Option.some.injEq, Prod.mk.injEq] at h
    obtain ⟨-, rfl, rfl, rfl⟩ := h
    refine ⟨I.pop.push ?_, am_G.rf⟩
    simp only [am_okV, am_i2b]
    omega
  next =>
    simp only [Option.some.injEq, Prod.mk.injEq] at h
    obtain ⟨-, rfl, rfl, rfl⟩ := h
    refine ⟨I.pop.push ?_, am_G.rf⟩
    simp only [am_okV, am_i2c]
    omega
  next => cases h
theorem am_p_lcmp (h : am_slcmp n L S μ = some (pc', L', S', μ')) (I : am_I ft μ L S) : am_I ft μ' L' S' ∧ am_G μ μ' := by
  unfold am_slcmp at h
  split at h
  next =>
    simp only [Option.some.injEq, Prod.mk.injEq] at h
    obtain ⟨-, rfl, rfl, rfl⟩ := h
    refine ⟨I.pop.pop.push ?_, am_G.rf⟩
    simp only [am_okV, am_lcmp]
    split
    · omega
    · split <;> omega
  next => cases h
theorem am_p_inc {c : Int} (h : am_sinc a c n L S μ = some (pc', L', S', μ')) (I : am_I ft μ L S) : am_I ft μ' L' S' ∧ am_G μ μ' := by
  unfold am_sinc at h
  split at h
  next =>
    simp only [Option.some.injEq, Prod.mk.injEq] at h
    obtain ⟨-, rfl, rfl, rfl⟩ := h
    exact ⟨I.store (am_w32_rng _), am_G.rf⟩
  next => cases h
theorem am_p_if {tgt : Nat} (h : am_sif a tgt n L S μ = some (pc', L', S', μ')) (I : am_I ft μ L S) : am_I ft μ' L' S' ∧ am_G μ μ' := by
  unfold am_sif at h
  split at h
  next =>
    simp only [Option.some.injEq, Prod.mk.injEq] at h
    obtain ⟨-, rfl, rfl, rfl⟩ := h
    exact ⟨I.pop, am_G.rf⟩
  next => cases h
theorem am_p_icmp {tgt : Nat} (h : am_sicmp a tgt n L S μ = some (pc', L', S', μ')) (I : am_I ft μ L S) : am_I ft μ' L' S' ∧ am_G μ μ' := by
  unfold am_sicmp at h
  split at h
  next =>
    simp only [Option.some.injEq, Prod.mk.injEq] at h
    obtain ⟨-, rfl, rfl, rfl⟩ := h
    exact ⟨I.pop.pop, am_G.rf⟩
  next => cases h
theorem am_p_tsw {lo : Int} {offs : List Nat} (h : am_stsw b lo offs L S μ = some (pc', L', S', μ')) (I : am_I ft μ L S) : am_I ft μ' L' S' ∧ am_G μ μ' := by
  unfold am_stsw at h
  split at h
  next =>
    split at h
    next =>
      simp only [Option.some.injEq, Prod.mk.injEq] at h
      obtain ⟨-, rfl, rfl, rfl⟩ := h
      exact ⟨I.pop, am_G.rf⟩
    next =>
      split at h
      next =>
        simp only [Option.some.injEq, Prod.mk.injEq] at h
        obtain ⟨-, rfl, rfl, rfl⟩ := h
        exact ⟨I.pop, am_G.rf⟩
      next => cases h
  next => cases h
theorem am_p_dup (h : am_sdup n L S μ = some (pc', L', S', μ')) (I : am_I ft μ L S) : am_I ft μ' L' S' ∧ am_G μ μ' := by
  unfold am_sdup at h
  split at h
  next =>
    split at h
    next => cases h
    next =>
      simp only [Option.some.injEq, Prod.mk.injEq] at h
      obtain ⟨-, rfl, rfl, rfl⟩ := h
      exact ⟨I.push I.top, am_G.rf⟩
  next => cases h
theorem am_p_dup2 (h : am_sdup2 n L S μ = some (pc', L', S', μ')) (I : am_I ft μ L S) : am_I ft μ' L' S' ∧ am_G μ μ' := by
  unfold am_sdup2 at h
  split at h
  next =>
    split at h
    next => cases h
    next =>
      simp only [Option.some.injEq, Prod.mk.injEq] at h
      obtain ⟨-, rfl, rfl, rfl⟩ := h
      exact ⟨(I.push I.pop.top).push I.top, am_G.rf⟩
  next => cases h
theorem am_p_pop (h : am_spop n L S μ = some (pc', L', S', μ')) (I : am_I ft μ L S) : am_I ft μ' L' S' ∧ am_G μ μ' := by
  unfold am_spop at h
  split at h
  next =>
    split at h
    next => cases h
    next =>
      simp only [Option.some.injEq, Prod.mk.injEq] at h
      obtain ⟨-, rfl, rfl, rfl⟩ := h
      exact ⟨I.pop, am_G.rf⟩
  next => cases h
theorem am_tyc_obj {c : am_C} {ci j : Nat} (h : c.1 = 4 + ci) : am_tyc ft c j = am_ft ft ci j := by
  unfold am_tyc
  rw [if_neg (by omega), h, Nat.add_sub_cancel_left]
theorem am_tyc_arr {c : am_C} {j : Nat} (h : c.1 < 4) : am_tyc ft c j = c.1 := by
  unfold am_tyc
  rw [if_pos h]
theorem am_p_getf {ci j : Nat} (h : am_sgetf ft ci j n L S μ = some (pc', L', S', μ')) (I : am_I ft μ L S) : am_I ft μ' L' S' ∧ am_G μ μ' := by
  unfold am_sgetf at h
  split at h
  next k S1 =>
    split at h
    next kd N rs hd =>
      split at h
      next hc =>
        split at h
        next v hv =>
          simp only [Option.some.injEq, Prod.mk.injEq] at h
          obtain ⟨-, rfl, rfl, rfl⟩ := h
          refine ⟨I.pop.push ?_, am_G.rf⟩
          have h1 := (I.1.2 k _ hd).1 j
          rw [am_tyc_obj (c := (kd, N, rs)) hc.1] at h1
          unfold am_fget at hv
          split at hv
          next e => cases hv; rw [e] at h1; exact am_okT32 (by omega) h1
          next e => cases hv; rw [e] at h1; exact am_okT32 (by omega) h1
          next e => cases hv; rw [e] at h1; exact am_okT32 (by omega) h1
          next e => cases hv; rw [e] at h1; exact am_okT64 h1
          next =>
            split at hv
            next r hr => cases hv; exact (I.1.2 k _ hd).2 j r hr
            next => cases hv
        next => cases h
      next => cases h
    next => cases h
  next => cases h
theorem am_p_putf {ci j : Nat} (h : am_sputf ft ci j n L S μ = some (pc', L', S', μ')) (I : am_I ft μ L S) : am_I ft μ' L' S' ∧ am_G μ μ' := by
  unfold am_sputf at h
  split at h
  next x k S1 =>
    split at h
    next kd N rs hd =>
      split at h
      next hc =>
        simp only [Option.some.injEq, Prod.mk.injEq] at h
        obtain ⟨-, rfl, rfl, rfl⟩ := h
        exact ⟨⟨I.1.upd (am_dsc_rw I.1.1 hd) (by rw [am_tyc_obj (c := (kd, N, rs)) hc.1]; exact hc.2.2.2), I.2.1, I.pop.pop.2.2⟩, am_G.rf⟩
      next => cases h
    next => cases h
  next x k S1 =>
    split at h
    next kd N rs hd =>
      split at h
      next hc =>
        simp only [Option.some.injEq, Prod.mk.injEq] at h
        obtain ⟨-, rfl, rfl, rfl⟩ := h
        refine ⟨⟨I.1.upd (am_dsc_rw I.1.1 hd) ?_, I.2.1, I.pop.pop.2.2⟩, am_G.rf⟩
        rw [am_tyc_obj (c := (kd, N, rs)) hc.1, hc.2.2]
        have := I.top
        simp only [am_okV] at this
        simp [am_okT]
        omega
      next => cases h
    next => cases h
  next r k S1 =>
    split at h
    next kd N rs hd =>
      split at h
      next hc =>
        simp only [Option.some.injEq, Prod.mk.injEq] at h
        obtain ⟨-, rfl, rfl, rfl⟩ := h
        have hk : k < μ.1.length := (List.getElem?_eq_some_iff.mp hd).1
        have hlen : (μ.1.set k (kd, N, rs.set j (r + 1))).length = μ.1.length := List.length_set
        refine ⟨⟨⟨by rw [hlen]; exact I.1.1, fun k' c' h' => ?_⟩, fun v hv => by rw [hlen]; exact I.2.1 v hv, fun v hv => by rw [hlen]; exact I.pop.pop.2.2 v hv⟩, ⟨by rw [hlen]; exact Nat.le_refl _, ?_, rfl⟩⟩
        · by_cases e : k' = k
          · subst e
            have hk2 : k' < 1000 := by have := I.1.1; omega
            have ec : c' = (kd, N, rs.set j (r + 1)) := by
              unfold am_dsc at h'
              rw [if_pos hk2] at h'
              rw [List.getElem?_set_self hk] at h'
              exact (Option.some.inj h').symm
            subst ec
            have h0 := I.1.2 k' _ (am_dsc_rw I.1.1 hd)
            refine ⟨fun i => h0.1 i, fun i q hq => ?_⟩
            rw [hlen]
            have hq' : (rs.set j (r + 1))[i]? = some (q + 1) := hq
            by_cases ei : i = j
            · subst ei
              have hi : i < rs.length := by rw [← List.length_set (as := rs) (i := i) (a := r + 1)]; exact (List.getElem?_eq_some_iff.mp hq').1
              rw [List.getElem?_set_self hi] at hq'
              have : r = q := by simpa using hq'
              subst this
              exact I.top
            · rw [List.getElem?_set_ne (Ne.symm ei)] at hq'
              exact h0.2 i q hq'
          · have h2 : am_dsc μ k' = some c' := by
              unfold am_dsc at h' ⊢
              split at h'
              next z =>
                rw [if_pos z]
                rw [List.getElem?_set_ne (Ne.symm e)] at h'
                exact h'
              next z => rw [if_neg z]; exact h'
            refine ⟨(I.1.2 k' c' h2).1, fun i q hq => ?_⟩
            rw [hlen]
            exact (I.1.2 k' c' h2).2 i q hq
        · have hz := am_sl_set (c' := (kd, N, rs.set j (r + 1))) hd rfl
          show am_sl μ ≤ ((μ.1.set k (kd, N, rs.set j (r + 1))).map (fun c => c.2.1)).sum
          rw [hz]
          exact Nat.le_refl _
      next => cases h
    next => cases h
  next => cases h
theorem am_p_gets (h : am_sgets a n L S μ = some (pc', L', S', μ')) (I : am_I ft μ L S) : am_I ft μ' L' S' ∧ am_G μ μ' := by
  unfold am_sgets at h
  split at h
  next =>
    simp only [Option.some.injEq, Prod.mk.injEq] at h
    obtain ⟨-, rfl, rfl, rfl⟩ := h
    exact ⟨I.push (Or.inr (by omega)), am_G.rf⟩
  next =>
    simp only [Option.some.injEq, Prod.mk.injEq] at h
    obtain ⟨-, rfl, rfl, rfl⟩ := h
    exact ⟨I.push (by simp only [am_okV]; omega), am_G.rf⟩
  next => cases h
theorem am_p_ald (h : am_sald a n L S μ = some (pc', L', S', μ')) (ha : a < 4) (I : am_I ft μ L S) : am_I ft μ' L' S' ∧ am_G μ μ' := by
  unfold am_sald at h
  split at h
  next i k S1 =>
    split at h
    next kd N rs hd =>
      split at h
      next hc =>
        simp only [Option.some.injEq, Prod.mk.injEq] at h
        obtain ⟨-, rfl, rfl, rfl⟩ := h
        refine ⟨I.pop.pop.push ?_, am_G.rf⟩
        have h1 := (I.1.2 k _ hd).1 i.toNat
        rw [am_tyc_arr (c := (kd, N, rs)) (by show kd < 4; omega)] at h1
        have h1 : am_okT kd _ = true := h1
        rw [hc.1] at h1
        split
        next e => subst e; exact am_okT64 h1
        next e => exact am_okT32 (by omega) h1
      next => cases h
    next => cases h
  next => cases h
theorem am_p_ast (h : am_sast a n L S μ = some (pc', L', S', μ')) (I : am_I ft μ L S) : am_I ft μ' L' S' ∧ am_G μ μ' := by
  unfold am_sast at h
  split at h
  next x i k S1 =>
    split at h
    next kd N rs hd =>
      split at h
      next hc =>
        simp only [Option.some.injEq, Prod.mk.injEq] at h
        obtain ⟨-, rfl, rfl, rfl⟩ := h
        refine ⟨⟨I.1.upd (am_dsc_rw I.1.1 hd) ?_, I.2.1, I.pop.pop.pop.2.2⟩, am_G.rf⟩
        rw [am_tyc_arr (c := (kd, N, rs)) (by show kd < 4; omega)]
        show am_okT kd x = true
        rw [hc.1]
        exact hc.2.2.2.2
      next => cases h
    next => cases h
  next x i k S1 =>
    split at h
    next kd N rs hd =>
      split at h
      next hc =>
        simp only [Option.some.injEq, Prod.mk.injEq] at h
        obtain ⟨-, rfl, rfl, rfl⟩ := h
        refine ⟨⟨I.1.upd (am_dsc_rw I.1.1 hd) ?_, I.2.1, I.pop.pop.pop.2.2⟩, am_G.rf⟩
        rw [am_tyc_arr (c := (kd, N, rs)) (by show kd < 4; omega)]
        show am_okT kd x = true
        rw [hc.1, hc.2.1]
        have := I.top
        simp only [am_okV] at this
        simp [am_okT]
        omega
      next => cases h
    next => cases h
  next => cases h
theorem am_p_alen (h : am_salen n L S μ = some (pc', L', S', μ')) (I : am_I ft μ L S) : am_I ft μ' L' S' ∧ am_G μ μ' := by
  unfold am_salen at h
  split at h
  next =>
    split at h
    next =>
      split at h
      next hc =>
        simp only [Option.some.injEq, Prod.mk.injEq] at h
        obtain ⟨-, rfl, rfl, rfl⟩ := h
        exact ⟨I.pop.push (by simp only [am_okV]; omega), am_G.rf⟩
      next => cases h
    next => cases h
  next => cases h
theorem am_I.grow {c : am_C} (I : am_I ft μ L S) (hl : μ.1.length < 1000) (hr : ∀ j r : Nat, c.2.2[j]? ≠ some (r + 1)) : am_I ft (μ.1 ++ [c], μ.2.1, am_row μ.2.2 μ.1.length (fun _ => 0)) L (vP μ.1.length :: S) ∧ am_G μ (μ.1 ++ [c], μ.2.1, am_row μ.2.2 μ.1.length (fun _ => 0)) := by
  have hlen : (μ.1 ++ [c]).length = μ.1.length + 1 := by simp
  refine ⟨⟨I.1.new hl c hr, fun v hv => ?_, fun v hv => ?_⟩, ⟨by show _ ≤ (μ.1 ++ [c]).length; omega, by rw [am_sl_new]; omega, rfl⟩⟩
  · show am_okV (μ.1 ++ [c]).length v
    exact (I.2.1 v hv).mono (by omega)
  · show am_okV (μ.1 ++ [c]).length v
    rcases List.mem_cons.mp hv with e | e
    · subst e; exact Or.inl (by omega)
    · exact (I.2.2 v e).mono (by omega)
theorem am_p_new {ci N : Nat} (h : am_snew ci N n L S μ = some (pc', L', S', μ')) (I : am_I ft μ L S) : am_I ft μ' L' S' ∧ am_G μ μ' := by
  unfold am_snew at h
  split at h
  next hl =>
    simp only [Option.some.injEq, Prod.mk.injEq] at h
    obtain ⟨-, rfl, rfl, rfl⟩ := h
    refine I.grow hl (fun j r z => ?_)
    have z : (List.replicate N 0)[j]? = some (r + 1) := z
    have := List.eq_of_mem_replicate (List.mem_of_getElem? z)
    omega
  next => cases h
theorem am_p_newa (h : am_snewa a n L S μ = some (pc', L', S', μ')) (I : am_I ft μ L S) : am_I ft μ' L' S' ∧ am_G μ μ' := by
  unfold am_snewa at h
  split at h
  next =>
    split at h
    next hc =>
      simp only [Option.some.injEq, Prod.mk.injEq] at h
      obtain ⟨-, rfl, rfl, rfl⟩ := h
      refine I.pop.grow hc.1 (fun j r z => ?_)
      have z : ([] : List Nat)[j]? = some (r + 1) := z
      simp at z
    next => cases h
  next => cases h
theorem am_p_copy (h : am_scopy a n L S μ = some (pc', L', S', μ')) (I : am_I ft μ L S) : am_I ft μ' L' S' ∧ am_G μ μ' := by
  unfold am_scopy at h
  split at h
  next m dp k1 sp k0 S1 =>
    split at h
    next kd0 N0 r0 kd1 N1 r1 h0 h1 =>
      split at h
      next hc =>
        simp only [Option.some.injEq, Prod.mk.injEq] at h
        obtain ⟨-, rfl, rfl, rfl⟩ := h
        refine ⟨⟨I.1.row (am_dsc_rw I.1.1 h1) (fun j => ?_), I.2.1, I.pop.pop.pop.pop.pop.2.2⟩, am_G.rf⟩
        have g0 : ∀ i, am_okT kd0 (μ.2.2 k0 i) = true := fun i => by
          have z := (I.1.2 k0 _ (am_dsc_rw I.1.1 h0)).1 i
          rw [am_tyc_arr (c := (kd0, N0, r0)) (by show kd0 < 4; omega)] at z
          exact z
        have g1 : ∀ i, am_okT kd1 (μ.2.2 k1 i) = true := fun i => by
          have z := (I.1.2 k1 _ (am_dsc_rw I.1.1 h1)).1 i
          rw [am_tyc_arr (c := (kd1, N1, r1)) (by show kd1 < 4; omega)] at z
          exact z
        rw [am_tyc_arr (c := (kd1, N1, r1)) (by show kd1 < 4; omega)]
        show am_okT kd1 _ = true
        have e : kd0 = kd1 := by omega
        subst e
        unfold am_cp
        split
        · exact g0 _
        · exact g1 _
      next => cases h
    next => cases h
  next => cases h
theorem am_p_math (h : am_smath a n L S μ = some (pc', L', S', μ')) (I : am_I ft μ L S) : am_I ft μ' L' S' ∧ am_G μ μ' := by
  unfold am_smath at h
  split at h
  next y x S1 =>
    split at h
    next =>
      simp only [Option.some.injEq, Prod.mk.injEq] at h
      obtain ⟨-, rfl, rfl, rfl⟩ := h
      refine ⟨I.pop.pop.push ?_, am_G.rf⟩
      split
      · exact I.top
      · exact I.pop.top
    next => cases h
  next y x S1 =>
    split at h
    next =>
      simp only [Option.some.injEq, Prod.mk.injEq] at h
      obtain ⟨-, rfl, rfl, rfl⟩ := h
      refine ⟨I.pop.pop.push ?_, am_G.rf⟩
      split
      · exact I.top
      · exact I.pop.top
    next => cases h
  next x S1 =>
    split at h
    next =>
      simp only [Option.some.injEq, Prod.mk.injEq] at h
      obtain ⟨-, rfl, rfl, rfl⟩ := h
      refine ⟨I.pop.push ?_, am_G.rf⟩
      split
      · exact I.top
      · exact am_w32_rng _
    next => cases h
  next => cases h
theorem am_p_oinit (h : am_soinit n L S μ = some (pc', L', S', μ')) (I : am_I ft μ L S) : am_I ft μ' L' S' ∧ am_G μ μ' := by
  unfold am_soinit at h
  split at h
  next =>
    split at h
    next =>
      simp only [Option.some.injEq, Prod.mk.injEq] at h
      obtain ⟨-, rfl, rfl, rfl⟩ := h
      exact ⟨I.pop, am_G.rf⟩
    next => cases h
  next => cases h
theorem am_p_step {e : am_E} {pc : Nat} (hok : am_okc e) (hald : e.1 = 26 → e.2.2.1 < 4) (h : am_step ft e pc L S μ = some (pc', L', S', μ')) (I : am_I ft μ L S) : am_I ft μ' L' S' ∧ am_G μ μ' := by
  obtain ⟨op, len, a, b, d, c, ks, offs⟩ := e
  unfold am_step at h
  dsimp only at h hald
  split at h
  · exact am_p_load h I
  · exact am_p_load h I
  · exact am_p_load h I
  · exact am_p_store h I
  · exact am_p_store h I
  · exact am_p_store h I
  · simp only [Option.some.injEq, Prod.mk.injEq] at h
    obtain ⟨-, rfl, rfl, rfl⟩ := h
    exact ⟨I.push (hok.1 rfl), am_G.rf⟩
  · simp only [Option.some.injEq, Prod.mk.injEq] at h
    obtain ⟨-, rfl, rfl, rfl⟩ := h
    exact ⟨I.push (hok.2 rfl), am_G.rf⟩
  · exact am_p_bin h I
  · exact am_p_div h I
  · exact am_p_div h I
  · exact am_p_neg h I
  · exact am_p_lbin h I
  · exact am_p_conv h I
  · exact am_p_lcmp h I
  · exact am_p_inc h I
  · exact am_p_if h I
  · exact am_p_icmp h I
  · simp only [Option.some.injEq, Prod.mk.injEq] at h
    obtain ⟨-, rfl, rfl, rfl⟩ := h
    exact ⟨I, am_G.rf⟩
  · exact am_p_tsw h I
  · exact am_p_dup h I
  · exact am_p_dup2 h I
  · exact am_p_pop h I
  · exact am_p_getf h I
  · exact am_p_putf h I
  · exact am_p_gets h I
  · exact am_p_ald h (hald rfl) I
  · exact am_p_ast h I
  · exact am_p_alen h I
  · exact am_p_new h I
  · exact am_p_newa h I
  · exact am_p_copy h I
  · exact am_p_math h I
  · exact am_p_oinit h I
  · simp only [Option.some.injEq, Prod.mk.injEq] at h
    obtain ⟨-, rfl, rfl, rfl⟩ := h
    exact ⟨I.push (Or.inr (by omega)), am_G.rf⟩
  · cases h
theorem am_ent0_mem {v : am_V} : ∀ {vs : List am_V}, some v ∈ am_ent0 vs → v ∈ vs
  | [], h => by cases h
  | u :: vs, h => by
    unfold am_ent0 at h
    split at h
    · rcases List.mem_cons.mp h with e | e
      · cases e; exact List.mem_cons_self
      · rcases List.mem_cons.mp e with e | e
        · cases e
        · exact List.mem_cons_of_mem _ (am_ent0_mem e)
    · rcases List.mem_cons.mp h with e | e
      · cases e; exact List.mem_cons_self
      · exact List.mem_cons_of_mem _ (am_ent0_mem e)
theorem am_ent_mem {v : am_V} {N : Nat} {vs : List am_V} (h : some v ∈ am_ent N vs) : v ∈ vs := by
  rcases List.mem_append.mp h with h | h
  · exact am_ent0_mem h
  · cases List.eq_of_mem_replicate h
theorem am_ret_ok {r : Option am_V} {N : Nat} (h : am_ret a S = some r) (hS : ∀ v ∈ S, am_okV N v) : ∀ v, r = some v → am_okV N v := by
  intro v hv
  subst hv
  unfold am_ret at h
  split at h
  · cases h
  · cases h; exact hS _ List.mem_cons_self
  · split at h
    · cases h; exact hS _ List.mem_cons_self
    · cases h
  · split at h
    · cases h; exact hS _ List.mem_cons_self
    · cases h
  · split at h
    · cases h; exact hS _ List.mem_cons_self
    · cases h
  · cases h; exact hS _ List.mem_cons_self
  · cases h
/-- a whole run keeps all that -/
theorem am_p_run {mL : Nat → Nat} {code : Nat → Nat → Option am_E} (hok : ∀ mid pc e, code mid pc = some e → am_okc e ∧ (e.1 = 26 → e.2.2.1 < 4)) : ∀ (n mid pc : Nat) (L : am_L) (S : List am_V) (μ : am_M) (r : Option am_V) (μ' : am_M), am_run ft mL code n mid pc L S μ = some (r, μ') → am_I ft μ L S → (am_R ft μ' ∧ ∀ v, r = some v → am_okV μ'.1.length v) ∧ am_G μ μ' := by
  intro n
  induction n with
  | zero => intro mid pc L S μ r μ' h; cases h
  | succ n ih =>
    intro mid pc L S μ r μ' h I
    unfold am_run at h
    split at h
    next => cases h
    next op len a b d c ks offs he =>
      obtain ⟨h1, h2⟩ := hok _ _ _ he
      split at h
      next =>
        split at h
        next hc =>
          split at h
          next => cases h
          next r1 μ1 hr1 =>
            obtain ⟨⟨g1, g2⟩, g3⟩ := ih _ _ _ _ _ _ _ hr1 ⟨I.1, fun v hv => I.2.2 v (List.mem_of_mem_take (List.mem_reverse.mp (am_ent_mem hv))), fun v hv => by cases hv⟩
            obtain ⟨k1, k2⟩ := ih _ _ _ _ _ _ _ h ⟨g1, fun v hv => (I.2.1 v (am_mem_kill hv)).mono g3.1, fun v hv => by
              rcases List.mem_append.mp hv with z | z
              · exact g2 v (by simpa using z)
              · exact (I.2.2 v (List.mem_of_mem_drop z)).mono g3.1⟩
            exact ⟨k1, g3.tr k2⟩
        next => cases h
      next =>
        split at h
        next =>
          split at h
          next => cases h
          next r1 hr1 =>
            simp only [Option.some.injEq, Prod.mk.injEq] at h
            obtain ⟨rfl, rfl⟩ := h
            exact ⟨⟨I.1, am_ret_ok hr1 I.2.2⟩, am_G.rf⟩
        next =>
          split at h
          next => cases h
          next pc1 L1 S1 μ1 hs =>
            obtain ⟨g1, g2⟩ := am_p_step h1 h2 hs (I.kill ks)
            obtain ⟨k1, k2⟩ := ih _ _ _ _ _ _ _ h g1
            exact ⟨k1, g2.tr k2⟩
end PRES
end
