section
-- ===== PART A: goes FIRST, ahead of the names: the tables' words, and 'selects' of the private methods out of them =====
/-- a private method of a class that the tables say can be made, by its rows of tables_1 -/
def lw_okq (q : MethodName × Nat) : Prop := (q.1.cls ≠ "java/lang/invoke/MethodHandle" ∧ q.1.cls ≠ "java/lang/invoke/VarHandle") ∧ Cond.instantiable q.1.cls q.2 ∈ tables_1 ∧ Cond.privateMethod q.1 ∈ tables_1 ∧ Cond.instanceMethod q.1 ∈ tables_1
theorem lw_p0 : lw_okq (⟨"OboeDistrict$Tape", "scanToken", "(I)I"⟩, 15) := ⟨⟨by decide +kernel, by decide +kernel⟩, List.mem_of_getElem? (i := 35) (by decide +kernel), List.mem_of_getElem? (i := 514) (by decide +kernel), List.mem_of_getElem? (i := 515) (by decide +kernel)⟩
theorem lw_p1 : lw_okq (⟨"OboeDistrict$Tape", "scanRun", "()I"⟩, 15) := ⟨⟨by decide +kernel, by decide +kernel⟩, List.mem_of_getElem? (i := 35) (by decide +kernel), List.mem_of_getElem? (i := 527) (by decide +kernel), List.mem_of_getElem? (i := 528) (by decide +kernel)⟩
theorem lw_p2 : lw_okq (⟨"OboeDistrict$Tape", "wordOf", "(J)I"⟩, 15) := ⟨⟨by decide +kernel, by decide +kernel⟩, List.mem_of_getElem? (i := 35) (by decide +kernel), List.mem_of_getElem? (i := 531) (by decide +kernel), List.mem_of_getElem? (i := 532) (by decide +kernel)⟩
theorem lw_p3 : lw_okq (⟨"OboeDistrict$Life", "gatherSetsOfEach", "()V"⟩, 11) := ⟨⟨by decide +kernel, by decide +kernel⟩, List.mem_of_getElem? (i := 356) (by decide +kernel), List.mem_of_getElem? (i := 553) (by decide +kernel), List.mem_of_getElem? (i := 554) (by decide +kernel)⟩
theorem lw_p4 : lw_okq (⟨"OboeDistrict$Life", "gatherDues", "()V"⟩, 11) := ⟨⟨by decide +kernel, by decide +kernel⟩, List.mem_of_getElem? (i := 356) (by decide +kernel), List.mem_of_getElem? (i := 561) (by decide +kernel), List.mem_of_getElem? (i := 562) (by decide +kernel)⟩
theorem lw_p5 : lw_okq (⟨"OboeDistrict$DistrictReader", "readLine", "()Z"⟩, 3) := ⟨⟨by decide +kernel, by decide +kernel⟩, List.mem_of_getElem? (i := 158) (by decide +kernel), List.mem_of_getElem? (i := 575) (by decide +kernel), List.mem_of_getElem? (i := 576) (by decide +kernel)⟩
theorem lw_p6 : lw_okq (⟨"OboeDistrict$DistrictReader", "readNew", "(I)Z"⟩, 3) := ⟨⟨by decide +kernel, by decide +kernel⟩, List.mem_of_getElem? (i := 158) (by decide +kernel), List.mem_of_getElem? (i := 590) (by decide +kernel), List.mem_of_getElem? (i := 591) (by decide +kernel)⟩
theorem lw_p7 : lw_okq (⟨"OboeDistrict$DistrictReader", "readPerson", "(I)Z"⟩, 3) := ⟨⟨by decide +kernel, by decide +kernel⟩, List.mem_of_getElem? (i := 158) (by decide +kernel), List.mem_of_getElem? (i := 606) (by decide +kernel), List.mem_of_getElem? (i := 607) (by decide +kernel)⟩
theorem lw_p8 : lw_okq (⟨"OboeDistrict$DistrictReader", "readShare", "(I)Z"⟩, 3) := ⟨⟨by decide +kernel, by decide +kernel⟩, List.mem_of_getElem? (i := 158) (by decide +kernel), List.mem_of_getElem? (i := 627) (by decide +kernel), List.mem_of_getElem? (i := 628) (by decide +kernel)⟩
theorem lw_p9 : lw_okq (⟨"OboeDistrict$DistrictReader", "readTie", "(I)Z"⟩, 3) := ⟨⟨by decide +kernel, by decide +kernel⟩, List.mem_of_getElem? (i := 158) (by decide +kernel), List.mem_of_getElem? (i := 634) (by decide +kernel), List.mem_of_getElem? (i := 635) (by decide +kernel)⟩
theorem lw_p10 : lw_okq (⟨"OboeDistrict$DistrictReader", "isTied", "(III)Z"⟩, 3) := ⟨⟨by decide +kernel, by decide +kernel⟩, List.mem_of_getElem? (i := 158) (by decide +kernel), List.mem_of_getElem? (i := 638) (by decide +kernel), List.mem_of_getElem? (i := 639) (by decide +kernel)⟩
theorem lw_p11 : lw_okq (⟨"OboeDistrict$DistrictReader", "tie", "(III)Z"⟩, 3) := ⟨⟨by decide +kernel, by decide +kernel⟩, List.mem_of_getElem? (i := 158) (by decide +kernel), List.mem_of_getElem? (i := 643) (by decide +kernel), List.mem_of_getElem? (i := 644) (by decide +kernel)⟩
theorem lw_p12 : lw_okq (⟨"OboeDistrict$Book", "readLine", "(LOboeDistrict$Tape;LOboeDistrict$Town;)Z"⟩, 9) := ⟨⟨by decide +kernel, by decide +kernel⟩, List.mem_of_getElem? (i := 194) (by decide +kernel), List.mem_of_getElem? (i := 679) (by decide +kernel), List.mem_of_getElem? (i := 680) (by decide +kernel)⟩
theorem lw_p13 : lw_okq (⟨"OboeDistrict$Book", "readYear", "(LOboeDistrict$Tape;)Z"⟩, 9) := ⟨⟨by decide +kernel, by decide +kernel⟩, List.mem_of_getElem? (i := 194) (by decide +kernel), List.mem_of_getElem? (i := 687) (by decide +kernel), List.mem_of_getElem? (i := 688) (by decide +kernel)⟩
theorem lw_p14 : lw_okq (⟨"OboeDistrict$Book", "readDeed", "(LOboeDistrict$Tape;LOboeDistrict$Town;)Z"⟩, 9) := ⟨⟨by decide +kernel, by decide +kernel⟩, List.mem_of_getElem? (i := 194) (by decide +kernel), List.mem_of_getElem? (i := 692) (by decide +kernel), List.mem_of_getElem? (i := 693) (by decide +kernel)⟩
theorem lw_p15 : lw_okq (⟨"OboeDistrict$Book", "liveLine", "(LOboeDistrict$Life;I)I"⟩, 9) := ⟨⟨by decide +kernel, by decide +kernel⟩, List.mem_of_getElem? (i := 194) (by decide +kernel), List.mem_of_getElem? (i := 702) (by decide +kernel), List.mem_of_getElem? (i := 703) (by decide +kernel)⟩
def lw_privs_1 : List (MethodName × Nat) := [(⟨"OboeDistrict$Tape", "scanToken", "(I)I"⟩, 15), (⟨"OboeDistrict$Tape", "scanRun", "()I"⟩, 15), (⟨"OboeDistrict$Tape", "wordOf", "(J)I"⟩, 15), (⟨"OboeDistrict$Life", "gatherSetsOfEach", "()V"⟩, 11), (⟨"OboeDistrict$Life", "gatherDues", "()V"⟩, 11), (⟨"OboeDistrict$DistrictReader", "readLine", "()Z"⟩, 3), (⟨"OboeDistrict$DistrictReader", "readNew", "(I)Z"⟩, 3), (⟨"OboeDistrict$DistrictReader", "readPerson", "(I)Z"⟩, 3), (⟨"OboeDistrict$DistrictReader", "readShare", "(I)Z"⟩, 3), (⟨"OboeDistrict$DistrictReader", "readTie", "(I)Z"⟩, 3), (⟨"OboeDistrict$DistrictReader", "isTied", "(III)Z"⟩, 3), (⟨"OboeDistrict$DistrictReader", "tie", "(III)Z"⟩, 3), (⟨"OboeDistrict$Book", "readLine", "(LOboeDistrict$Tape;LOboeDistrict$Town;)Z"⟩, 9), (⟨"OboeDistrict$Book", "readYear", "(LOboeDistrict$Tape;)Z"⟩, 9), (⟨"OboeDistrict$Book", "readDeed", "(LOboeDistrict$Tape;LOboeDistrict$Town;)Z"⟩, 9), (⟨"OboeDistrict$Book", "liveLine", "(LOboeDistrict$Life;I)I"⟩, 9)]
theorem lw_r1 : ∀ q ∈ lw_privs_1, lw_okq q := List.forall_mem_cons.mpr ⟨lw_p0, List.forall_mem_cons.mpr ⟨lw_p1, List.forall_mem_cons.mpr ⟨lw_p2, List.forall_mem_cons.mpr ⟨lw_p3, List.forall_mem_cons.mpr ⟨lw_p4, List.forall_mem_cons.mpr ⟨lw_p5, List.forall_mem_cons.mpr ⟨lw_p6, List.forall_mem_cons.mpr ⟨lw_p7, List.forall_mem_cons.mpr ⟨lw_p8, List.forall_mem_cons.mpr ⟨lw_p9, List.forall_mem_cons.mpr ⟨lw_p10, List.forall_mem_cons.mpr ⟨lw_p11, List.forall_mem_cons.mpr ⟨lw_p12, List.forall_mem_cons.mpr ⟨lw_p13, List.forall_mem_cons.mpr ⟨lw_p14, List.forall_mem_cons.mpr ⟨lw_p15, fun _ h => absurd h List.not_mem_nil⟩⟩⟩⟩⟩⟩⟩⟩⟩⟩⟩⟩⟩⟩⟩⟩
theorem lw_p16 : lw_okq (⟨"OboeDistrict$Life", "bestChange", "(I)I"⟩, 11) := ⟨⟨by decide +kernel, by decide +kernel⟩, List.mem_of_getElem? (i := 356) (by decide +kernel), List.mem_of_getElem? (i := 714) (by decide +kernel), List.mem_of_getElem? (i := 715) (by decide +kernel)⟩
theorem lw_p17 : lw_okq (⟨"OboeDistrict$Life", "turnMark", "(IIZ)I"⟩, 11) := ⟨⟨by decide +kernel, by decide +kernel⟩, List.mem_of_getElem? (i := 356) (by decide +kernel), List.mem_of_getElem? (i := 730) (by decide +kernel), List.mem_of_getElem? (i := 731) (by decide +kernel)⟩
theorem lw_p18 : lw_okq (⟨"OboeDistrict$Past", "dropOldest", "()V"⟩, 2) := ⟨⟨by decide +kernel, by decide +kernel⟩, List.mem_of_getElem? (i := 420) (by decide +kernel), List.mem_of_getElem? (i := 754) (by decide +kernel), List.mem_of_getElem? (i := 755) (by decide +kernel)⟩
theorem lw_p19 : lw_okq (⟨"OboeDistrict$SentenceReader", "readCond", "(I)Z"⟩, 4) := ⟨⟨by decide +kernel, by decide +kernel⟩, List.mem_of_getElem? (i := 175) (by decide +kernel), List.mem_of_getElem? (i := 797) (by decide +kernel), List.mem_of_getElem? (i := 798) (by decide +kernel)⟩
theorem lw_p20 : lw_okq (⟨"OboeDistrict$SentenceReader", "readAll", "(I)Z"⟩, 4) := ⟨⟨by decide +kernel, by decide +kernel⟩, List.mem_of_getElem? (i := 175) (by decide +kernel), List.mem_of_getElem? (i := 801) (by decide +kernel), List.mem_of_getElem? (i := 802) (by decide +kernel)⟩
theorem lw_p21 : lw_okq (⟨"OboeDistrict$SentenceReader", "readOne", "(I)Z"⟩, 4) := ⟨⟨by decide +kernel, by decide +kernel⟩, List.mem_of_getElem? (i := 175) (by decide +kernel), List.mem_of_getElem? (i := 805) (by decide +kernel), List.mem_of_getElem? (i := 806) (by decide +kernel)⟩
theorem lw_p22 : lw_okq (⟨"OboeDistrict$SentenceReader", "readNamed", "(II)Z"⟩, 4) := ⟨⟨by decide +kernel, by decide +kernel⟩, List.mem_of_getElem? (i := 175) (by decide +kernel), List.mem_of_getElem? (i := 821) (by decide +kernel), List.mem_of_getElem? (i := 822) (by decide +kernel)⟩
theorem lw_p23 : lw_okq (⟨"OboeDistrict$SentenceReader", "readComparison", "(I)Z"⟩, 4) := ⟨⟨by decide +kernel, by decide +kernel⟩, List.mem_of_getElem? (i := 175) (by decide +kernel), List.mem_of_getElem? (i := 826) (by decide +kernel), List.mem_of_getElem? (i := 827) (by decide +kernel)⟩
theorem lw_p24 : lw_okq (⟨"OboeDistrict$Sentence", "groupOf", "(LOboeDistrict$Life;I)I"⟩, 5) := ⟨⟨by decide +kernel, by decide +kernel⟩, List.mem_of_getElem? (i := 770) (by decide +kernel), List.mem_of_getElem? (i := 841) (by decide +kernel), List.mem_of_getElem? (i := 842) (by decide +kernel)⟩
theorem lw_p25 : lw_okq (⟨"OboeDistrict$Sentence", "groupByNumbers", "(LOboeDistrict$Life;I)I"⟩, 5) := ⟨⟨by decide +kernel, by decide +kernel⟩, List.mem_of_getElem? (i := 770) (by decide +kernel), List.mem_of_getElem? (i := 845) (by decide +kernel), List.mem_of_getElem? (i := 846) (by decide +kernel)⟩
theorem lw_p26 : lw_okq (⟨"OboeDistrict", "isPerson", "(I)Z"⟩, 15) := ⟨⟨by decide +kernel, by decide +kernel⟩, List.mem_of_getElem? (i := 27) (by decide +kernel), List.mem_of_getElem? (i := 868) (by decide +kernel), List.mem_of_getElem? (i := 869) (by decide +kernel)⟩
theorem lw_p27 : lw_okq (⟨"OboeDistrict", "isMark", "(I)Z"⟩, 15) := ⟨⟨by decide +kernel, by decide +kernel⟩, List.mem_of_getElem? (i := 27) (by decide +kernel), List.mem_of_getElem? (i := 872) (by decide +kernel), List.mem_of_getElem? (i := 873) (by decide +kernel)⟩
theorem lw_p28 : lw_okq (⟨"OboeDistrict", "isSet", "(I)Z"⟩, 15) := ⟨⟨by decide +kernel, by decide +kernel⟩, List.mem_of_getElem? (i := 27) (by decide +kernel), List.mem_of_getElem? (i := 884) (by decide +kernel), List.mem_of_getElem? (i := 885) (by decide +kernel)⟩
theorem lw_p29 : lw_okq (⟨"OboeDistrict$Plate", "putName", "(J)V"⟩, 2) := ⟨⟨by decide +kernel, by decide +kernel⟩, List.mem_of_getElem? (i := 293) (by decide +kernel), List.mem_of_getElem? (i := 936) (by decide +kernel), List.mem_of_getElem? (i := 937) (by decide +kernel)⟩
theorem lw_p30 : lw_okq (⟨"OboeDistrict$Plate", "putByte", "(I)V"⟩, 2) := ⟨⟨by decide +kernel, by decide +kernel⟩, List.mem_of_getElem? (i := 293) (by decide +kernel), List.mem_of_getElem? (i := 940) (by decide +kernel), List.mem_of_getElem? (i := 941) (by decide +kernel)⟩
theorem lw_p31 : lw_okq (⟨"OboeDistrict$Plate", "putText", "(Ljava/lang/String;)V"⟩, 2) := ⟨⟨by decide +kernel, by decide +kernel⟩, List.mem_of_getElem? (i := 293) (by decide +kernel), List.mem_of_getElem? (i := 946) (by decide +kernel), List.mem_of_getElem? (i := 947) (by decide +kernel)⟩
def lw_privs_2 : List (MethodName × Nat) := [(⟨"OboeDistrict$Life", "bestChange", "(I)I"⟩, 11), (⟨"OboeDistrict$Life", "turnMark", "(IIZ)I"⟩, 11), (⟨"OboeDistrict$Past", "dropOldest", "()V"⟩, 2), (⟨"OboeDistrict$SentenceReader", "readCond", "(I)Z"⟩, 4), (⟨"OboeDistrict$SentenceReader", "readAll", "(I)Z"⟩, 4), (⟨"OboeDistrict$SentenceReader", "readOne", "(I)Z"⟩, 4), (⟨"OboeDistrict$SentenceReader", "readNamed", "(II)Z"⟩, 4), (⟨"OboeDistrict$SentenceReader", "readComparison", "(I)Z"⟩, 4), (⟨"OboeDistrict$Sentence", "groupOf", "(LOboeDistrict$Life;I)I"⟩, 5), (⟨"OboeDistrict$Sentence", "groupByNumbers", "(LOboeDistrict$Life;I)I"⟩, 5), (⟨"OboeDistrict", "isPerson", "(I)Z"⟩, 15), (⟨"OboeDistrict", "isMark", "(I)Z"⟩, 15), (⟨"OboeDistrict", "isSet", "(I)Z"⟩, 15), (⟨"OboeDistrict$Plate", "putName", "(J)V"⟩, 2), (⟨"OboeDistrict$Plate", "putByte", "(I)V"⟩, 2), (⟨"OboeDistrict$Plate", "putText", "(Ljava/lang/String;)V"⟩, 2)]
theorem lw_r2 : ∀ q ∈ lw_privs_2, lw_okq q := List.forall_mem_cons.mpr ⟨lw_p16, List.forall_mem_cons.mpr ⟨lw_p17, List.forall_mem_cons.mpr ⟨lw_p18, List.forall_mem_cons.mpr ⟨lw_p19, List.forall_mem_cons.mpr ⟨lw_p20, List.forall_mem_cons.mpr ⟨lw_p21, List.forall_mem_cons.mpr ⟨lw_p22, List.forall_mem_cons.mpr ⟨lw_p23, List.forall_mem_cons.mpr ⟨lw_p24, List.forall_mem_cons.mpr ⟨lw_p25, List.forall_mem_cons.mpr ⟨lw_p26, List.forall_mem_cons.mpr ⟨lw_p27, List.forall_mem_cons.mpr ⟨lw_p28, List.forall_mem_cons.mpr ⟨lw_p29, List.forall_mem_cons.mpr ⟨lw_p30, List.forall_mem_cons.mpr ⟨lw_p31, fun _ h => absurd h List.not_mem_nil⟩⟩⟩⟩⟩⟩⟩⟩⟩⟩⟩⟩⟩⟩⟩⟩
theorem lw_p32 : lw_okq (⟨"OboeDistrict", "doneOrWhyNot", "(III)I"⟩, 15) := ⟨⟨by decide +kernel, by decide +kernel⟩, List.mem_of_getElem? (i := 27) (by decide +kernel), List.mem_of_getElem? (i := 965) (by decide +kernel), List.mem_of_getElem? (i := 966) (by decide +kernel)⟩
theorem lw_p33 : lw_okq (⟨"OboeDistrict", "isStreet", "(I)Z"⟩, 15) := ⟨⟨by decide +kernel, by decide +kernel⟩, List.mem_of_getElem? (i := 27) (by decide +kernel), List.mem_of_getElem? (i := 978) (by decide +kernel), List.mem_of_getElem? (i := 979) (by decide +kernel)⟩
theorem lw_p34 : lw_okq (⟨"OboeDistrict$Life", "actByDraws", "()V"⟩, 11) := ⟨⟨by decide +kernel, by decide +kernel⟩, List.mem_of_getElem? (i := 356) (by decide +kernel), List.mem_of_getElem? (i := 1004) (by decide +kernel), List.mem_of_getElem? (i := 1005) (by decide +kernel)⟩
theorem lw_p35 : lw_okq (⟨"OboeDistrict$Life", "drawOf", "(I)I"⟩, 11) := ⟨⟨by decide +kernel, by decide +kernel⟩, List.mem_of_getElem? (i := 356) (by decide +kernel), List.mem_of_getElem? (i := 1008) (by decide +kernel), List.mem_of_getElem? (i := 1009) (by decide +kernel)⟩
theorem lw_p36 : lw_okq (⟨"OboeDistrict$Life", "turnMarkByDraw", "(I)V"⟩, 11) := ⟨⟨by decide +kernel, by decide +kernel⟩, List.mem_of_getElem? (i := 356) (by decide +kernel), List.mem_of_getElem? (i := 1014) (by decide +kernel), List.mem_of_getElem? (i := 1015) (by decide +kernel)⟩
theorem lw_p37 : lw_okq (⟨"OboeDistrict$Search", "fillBurdens", "(LOboeDistrict$Town;I)V"⟩, 10) := ⟨⟨by decide +kernel, by decide +kernel⟩, List.mem_of_getElem? (i := 228) (by decide +kernel), List.mem_of_getElem? (i := 1042) (by decide +kernel), List.mem_of_getElem? (i := 1043) (by decide +kernel)⟩
theorem lw_p38 : lw_okq (⟨"OboeDistrict$Search", "fillOffs", "(LOboeDistrict$Life;I)I"⟩, 10) := ⟨⟨by decide +kernel, by decide +kernel⟩, List.mem_of_getElem? (i := 228) (by decide +kernel), List.mem_of_getElem? (i := 1047) (by decide +kernel), List.mem_of_getElem? (i := 1048) (by decide +kernel)⟩
theorem lw_p39 : lw_okq (⟨"OboeDistrict$Search", "findLeast", "(LOboeDistrict$Life;I)V"⟩, 10) := ⟨⟨by decide +kernel, by decide +kernel⟩, List.mem_of_getElem? (i := 228) (by decide +kernel), List.mem_of_getElem? (i := 1055) (by decide +kernel), List.mem_of_getElem? (i := 1056) (by decide +kernel)⟩
theorem lw_p40 : lw_okq (⟨"OboeDistrict$Search", "sumOfBurdens", "(I)I"⟩, 10) := ⟨⟨by decide +kernel, by decide +kernel⟩, List.mem_of_getElem? (i := 228) (by decide +kernel), List.mem_of_getElem? (i := 1059) (by decide +kernel), List.mem_of_getElem? (i := 1060) (by decide +kernel)⟩
theorem lw_p41 : lw_okq (⟨"OboeDistrict$Search", "fillPossible", "(LOboeDistrict$Life;I)V"⟩, 10) := ⟨⟨by decide +kernel, by decide +kernel⟩, List.mem_of_getElem? (i := 228) (by decide +kernel), List.mem_of_getElem? (i := 1081) (by decide +kernel), List.mem_of_getElem? (i := 1082) (by decide +kernel)⟩
theorem lw_p42 : lw_okq (⟨"OboeDistrict$Search", "fillShared", "(I)V"⟩, 10) := ⟨⟨by decide +kernel, by decide +kernel⟩, List.mem_of_getElem? (i := 228) (by decide +kernel), List.mem_of_getElem? (i := 1119) (by decide +kernel), List.mem_of_getElem? (i := 1120) (by decide +kernel)⟩
theorem lw_p43 : lw_okq (⟨"OboeDistrict$Tally", "findInEach", "()V"⟩, 5) := ⟨⟨by decide +kernel, by decide +kernel⟩, List.mem_of_getElem? (i := 269) (by decide +kernel), List.mem_of_getElem? (i := 1148) (by decide +kernel), List.mem_of_getElem? (i := 1149) (by decide +kernel)⟩
theorem lw_p44 : lw_okq (⟨"OboeDistrict$Tally", "findNextSet", "(LOboeDistrict$Life;)V"⟩, 5) := ⟨⟨by decide +kernel, by decide +kernel⟩, List.mem_of_getElem? (i := 269) (by decide +kernel), List.mem_of_getElem? (i := 1152) (by decide +kernel), List.mem_of_getElem? (i := 1153) (by decide +kernel)⟩
theorem lw_p45 : lw_okq (⟨"OboeDistrict$Tally", "mostLeftBy", "(I)I"⟩, 5) := ⟨⟨by decide +kernel, by decide +kernel⟩, List.mem_of_getElem? (i := 269) (by decide +kernel), List.mem_of_getElem? (i := 1156) (by decide +kernel), List.mem_of_getElem? (i := 1157) (by decide +kernel)⟩
theorem lw_p46 : lw_okq (⟨"OboeDistrict", "isTram", "(I)Z"⟩, 15) := ⟨⟨by decide +kernel, by decide +kernel⟩, List.mem_of_getElem? (i := 27) (by decide +kernel), List.mem_of_getElem? (i := 1174) (by decide +kernel), List.mem_of_getElem? (i := 1175) (by decide +kernel)⟩
theorem lw_p47 : lw_okq (⟨"java/lang/Throwable", "fillInStackTrace", "(I)Ljava/lang/Throwable;"⟩, 6) := ⟨⟨by decide +kernel, by decide +kernel⟩, List.mem_of_getElem? (i := 1235) (by decide +kernel), List.mem_of_getElem? (i := 1233) (by decide +kernel), List.mem_of_getElem? (i := 1234) (by decide +kernel)⟩
def lw_privs_3 : List (MethodName × Nat) := [(⟨"OboeDistrict", "doneOrWhyNot", "(III)I"⟩, 15), (⟨"OboeDistrict", "isStreet", "(I)Z"⟩, 15), (⟨"OboeDistrict$Life", "actByDraws", "()V"⟩, 11), (⟨"OboeDistrict$Life", "drawOf", "(I)I"⟩, 11), (⟨"OboeDistrict$Life", "turnMarkByDraw", "(I)V"⟩, 11), (⟨"OboeDistrict$Search", "fillBurdens", "(LOboeDistrict$Town;I)V"⟩, 10), (⟨"OboeDistrict$Search", "fillOffs", "(LOboeDistrict$Life;I)I"⟩, 10), (⟨"OboeDistrict$Search", "findLeast", "(LOboeDistrict$Life;I)V"⟩, 10), (⟨"OboeDistrict$Search", "sumOfBurdens", "(I)I"⟩, 10), (⟨"OboeDistrict$Search", "fillPossible", "(LOboeDistrict$Life;I)V"⟩, 10), (⟨"OboeDistrict$Search", "fillShared", "(I)V"⟩, 10), (⟨"OboeDistrict$Tally", "findInEach", "()V"⟩, 5), (⟨"OboeDistrict$Tally", "findNextSet", "(LOboeDistrict$Life;)V"⟩, 5), (⟨"OboeDistrict$Tally", "mostLeftBy", "(I)I"⟩, 5), (⟨"OboeDistrict", "isTram", "(I)Z"⟩, 15), (⟨"java/lang/Throwable", "fillInStackTrace", "(I)Ljava/lang/Throwable;"⟩, 6)]
theorem lw_r3 : ∀ q ∈ lw_privs_3, lw_okq q := List.forall_mem_cons.mpr ⟨lw_p32, List.forall_mem_cons.mpr ⟨lw_p33, List.forall_mem_cons.mpr ⟨lw_p34, List.forall_mem_cons.mpr ⟨lw_p35, List.forall_mem_cons.mpr ⟨lw_p36, List.forall_mem_cons.mpr ⟨lw_p37, List.forall_mem_cons.mpr ⟨lw_p38, List.forall_mem_cons.mpr ⟨lw_p39, List.forall_mem_cons.mpr ⟨lw_p40, List.forall_mem_cons.mpr ⟨lw_p41, List.forall_mem_cons.mpr ⟨lw_p42, List.forall_mem_cons.mpr ⟨lw_p43, List.forall_mem_cons.mpr ⟨lw_p44, List.forall_mem_cons.mpr ⟨lw_p45, List.forall_mem_cons.mpr ⟨lw_p46, List.forall_mem_cons.mpr ⟨lw_p47, fun _ h => absurd h List.not_mem_nil⟩⟩⟩⟩⟩⟩⟩⟩⟩⟩⟩⟩⟩⟩⟩⟩
theorem lw_p48 : lw_okq (⟨"OboeDistrictModel", "four", "(I)V"⟩, 55) := ⟨⟨by decide +kernel, by decide +kernel⟩, List.mem_of_getElem? (i := 1282) (by decide +kernel), List.mem_of_getElem? (i := 1280) (by decide +kernel), List.mem_of_getElem? (i := 1281) (by decide +kernel)⟩
theorem lw_p49 : lw_okq (⟨"OboeDistrictModel", "taken", "(I)V"⟩, 55) := ⟨⟨by decide +kernel, by decide +kernel⟩, List.mem_of_getElem? (i := 1282) (by decide +kernel), List.mem_of_getElem? (i := 1487) (by decide +kernel), List.mem_of_getElem? (i := 1488) (by decide +kernel)⟩
theorem lw_p50 : lw_okq (⟨"OboeDistrictModel", "next", "()V"⟩, 55) := ⟨⟨by decide +kernel, by decide +kernel⟩, List.mem_of_getElem? (i := 1282) (by decide +kernel), List.mem_of_getElem? (i := 1491) (by decide +kernel), List.mem_of_getElem? (i := 1492) (by decide +kernel)⟩
theorem lw_p51 : lw_okq (⟨"OboeDistrictModel", "peek", "()I"⟩, 55) := ⟨⟨by decide +kernel, by decide +kernel⟩, List.mem_of_getElem? (i := 1282) (by decide +kernel), List.mem_of_getElem? (i := 1495) (by decide +kernel), List.mem_of_getElem? (i := 1496) (by decide +kernel)⟩
theorem lw_p52 : lw_okq (⟨"OboeDistrictModel", "line", "()Z"⟩, 55) := ⟨⟨by decide +kernel, by decide +kernel⟩, List.mem_of_getElem? (i := 1282) (by decide +kernel), List.mem_of_getElem? (i := 1505) (by decide +kernel), List.mem_of_getElem? (i := 1506) (by decide +kernel)⟩
theorem lw_p53 : lw_okq (⟨"OboeDistrictModel", "isWord", "(J)Z"⟩, 55) := ⟨⟨by decide +kernel, by decide +kernel⟩, List.mem_of_getElem? (i := 1282) (by decide +kernel), List.mem_of_getElem? (i := 1509) (by decide +kernel), List.mem_of_getElem? (i := 1510) (by decide +kernel)⟩
theorem lw_p54 : lw_okq (⟨"OboeDistrictModel", "readName", "(III)Z"⟩, 55) := ⟨⟨by decide +kernel, by decide +kernel⟩, List.mem_of_getElem? (i := 1282) (by decide +kernel), List.mem_of_getElem? (i := 1513) (by decide +kernel), List.mem_of_getElem? (i := 1514) (by decide +kernel)⟩
theorem lw_p55 : lw_okq (⟨"OboeDistrictModel", "bad", "(I)Z"⟩, 55) := ⟨⟨by decide +kernel, by decide +kernel⟩, List.mem_of_getElem? (i := 1282) (by decide +kernel), List.mem_of_getElem? (i := 1517) (by decide +kernel), List.mem_of_getElem? (i := 1518) (by decide +kernel)⟩
theorem lw_p56 : lw_okq (⟨"OboeDistrictModel", "fresh", "(I)Z"⟩, 55) := ⟨⟨by decide +kernel, by decide +kernel⟩, List.mem_of_getElem? (i := 1282) (by decide +kernel), List.mem_of_getElem? (i := 1521) (by decide +kernel), List.mem_of_getElem? (i := 1522) (by decide +kernel)⟩
theorem lw_p57 : lw_okq (⟨"OboeDistrictModel", "isName", "()Z"⟩, 55) := ⟨⟨by decide +kernel, by decide +kernel⟩, List.mem_of_getElem? (i := 1282) (by decide +kernel), List.mem_of_getElem? (i := 1525) (by decide +kernel), List.mem_of_getElem? (i := 1526) (by decide +kernel)⟩
theorem lw_p58 : lw_okq (⟨"OboeDistrictModel", "find", "(II)I"⟩, 55) := ⟨⟨by decide +kernel, by decide +kernel⟩, List.mem_of_getElem? (i := 1282) (by decide +kernel), List.mem_of_getElem? (i := 1529) (by decide +kernel), List.mem_of_getElem? (i := 1530) (by decide +kernel)⟩
theorem lw_p59 : lw_okq (⟨"OboeDistrictModel", "readPerson", "()Z"⟩, 55) := ⟨⟨by decide +kernel, by decide +kernel⟩, List.mem_of_getElem? (i := 1282) (by decide +kernel), List.mem_of_getElem? (i := 1533) (by decide +kernel), List.mem_of_getElem? (i := 1534) (by decide +kernel)⟩
theorem lw_p60 : lw_okq (⟨"OboeDistrictModel", "takesName", "(II)Z"⟩, 55) := ⟨⟨by decide +kernel, by decide +kernel⟩, List.mem_of_getElem? (i := 1282) (by decide +kernel), List.mem_of_getElem? (i := 1537) (by decide +kernel), List.mem_of_getElem? (i := 1538) (by decide +kernel)⟩
theorem lw_p61 : lw_okq (⟨"OboeDistrictModel", "looksAt", "(II)Z"⟩, 55) := ⟨⟨by decide +kernel, by decide +kernel⟩, List.mem_of_getElem? (i := 1282) (by decide +kernel), List.mem_of_getElem? (i := 1541) (by decide +kernel), List.mem_of_getElem? (i := 1542) (by decide +kernel)⟩
theorem lw_p62 : lw_okq (⟨"OboeDistrictModel", "puts", "(III)Z"⟩, 55) := ⟨⟨by decide +kernel, by decide +kernel⟩, List.mem_of_getElem? (i := 1282) (by decide +kernel), List.mem_of_getElem? (i := 1545) (by decide +kernel), List.mem_of_getElem? (i := 1546) (by decide +kernel)⟩
theorem lw_p63 : lw_okq (⟨"OboeDistrictModel", "takes", "(II)Z"⟩, 55) := ⟨⟨by decide +kernel, by decide +kernel⟩, List.mem_of_getElem? (i := 1282) (by decide +kernel), List.mem_of_getElem? (i := 1549) (by decide +kernel), List.mem_of_getElem? (i := 1550) (by decide +kernel)⟩
def lw_privs_4 : List (MethodName × Nat) := [(⟨"OboeDistrictModel", "four", "(I)V"⟩, 55), (⟨"OboeDistrictModel", "taken", "(I)V"⟩, 55), (⟨"OboeDistrictModel", "next", "()V"⟩, 55), (⟨"OboeDistrictModel", "peek", "()I"⟩, 55), (⟨"OboeDistrictModel", "line", "()Z"⟩, 55), (⟨"OboeDistrictModel", "isWord", "(J)Z"⟩, 55), (⟨"OboeDistrictModel", "readName", "(III)Z"⟩, 55), (⟨"OboeDistrictModel", "bad", "(I)Z"⟩, 55), (⟨"OboeDistrictModel", "fresh", "(I)Z"⟩, 55), (⟨"OboeDistrictModel", "isName", "()Z"⟩, 55), (⟨"OboeDistrictModel", "find", "(II)I"⟩, 55), (⟨"OboeDistrictModel", "readPerson", "()Z"⟩, 55), (⟨"OboeDistrictModel", "takesName", "(II)Z"⟩, 55), (⟨"OboeDistrictModel", "looksAt", "(II)Z"⟩, 55), (⟨"OboeDistrictModel", "puts", "(III)Z"⟩, 55), (⟨"OboeDistrictModel", "takes", "(II)Z"⟩, 55)]
theorem lw_r4 : ∀ q ∈ lw_privs_4, lw_okq q := List.forall_mem_cons.mpr ⟨lw_p48, List.forall_mem_cons.mpr ⟨lw_p49, List.forall_mem_cons.mpr ⟨lw_p50, List.forall_mem_cons.mpr ⟨lw_p51, List.forall_mem_cons.mpr ⟨lw_p52, List.forall_mem_cons.mpr ⟨lw_p53, List.forall_mem_cons.mpr ⟨lw_p54, List.forall_mem_cons.mpr ⟨lw_p55, List.forall_mem_cons.mpr ⟨lw_p56, List.forall_mem_cons.mpr ⟨lw_p57, List.forall_mem_cons.mpr ⟨lw_p58, List.forall_mem_cons.mpr ⟨lw_p59, List.forall_mem_cons.mpr ⟨lw_p60, List.forall_mem_cons.mpr ⟨lw_p61, List.forall_mem_cons.mpr ⟨lw_p62, List.forall_mem_cons.mpr ⟨lw_p63, fun _ h => absurd h List.not_mem_nil⟩⟩⟩⟩⟩⟩⟩⟩⟩⟩⟩⟩⟩⟩⟩⟩
theorem lw_p64 : lw_okq (⟨"OboeDistrictModel", "pair", "(III)Z"⟩, 55) := ⟨⟨by decide +kernel, by decide +kernel⟩, List.mem_of_getElem? (i := 1282) (by decide +kernel), List.mem_of_getElem? (i := 1559) (by decide +kernel), List.mem_of_getElem? (i := 1560) (by decide +kernel)⟩
theorem lw_p65 : lw_okq (⟨"OboeDistrictModel", "readHate", "()Z"⟩, 55) := ⟨⟨by decide +kernel, by decide +kernel⟩, List.mem_of_getElem? (i := 1282) (by decide +kernel), List.mem_of_getElem? (i := 1566) (by decide +kernel), List.mem_of_getElem? (i := 1567) (by decide +kernel)⟩
theorem lw_p66 : lw_okq (⟨"OboeDistrictModel", "sign", "(I)Z"⟩, 55) := ⟨⟨by decide +kernel, by decide +kernel⟩, List.mem_of_getElem? (i := 1282) (by decide +kernel), List.mem_of_getElem? (i := 1570) (by decide +kernel), List.mem_of_getElem? (i := 1571) (by decide +kernel)⟩
theorem lw_p67 : lw_okq (⟨"OboeDistrictModel", "isSign", "(I)Z"⟩, 55) := ⟨⟨by decide +kernel, by decide +kernel⟩, List.mem_of_getElem? (i := 1282) (by decide +kernel), List.mem_of_getElem? (i := 1574) (by decide +kernel), List.mem_of_getElem? (i := 1575) (by decide +kernel)⟩
theorem lw_p68 : lw_okq (⟨"OboeDistrictModel", "isPerson", "(I)Z"⟩, 55) := ⟨⟨by decide +kernel, by decide +kernel⟩, List.mem_of_getElem? (i := 1282) (by decide +kernel), List.mem_of_getElem? (i := 1586) (by decide +kernel), List.mem_of_getElem? (i := 1587) (by decide +kernel)⟩
theorem lw_p69 : lw_okq (⟨"OboeDistrictModel", "throwsIf", "(Z)Z"⟩, 55) := ⟨⟨by decide +kernel, by decide +kernel⟩, List.mem_of_getElem? (i := 1282) (by decide +kernel), List.mem_of_getElem? (i := 1590) (by decide +kernel), List.mem_of_getElem? (i := 1591) (by decide +kernel)⟩
theorem lw_p70 : lw_okq (⟨"OboeDistrictModel", "isAway", "(I)Z"⟩, 55) := ⟨⟨by decide +kernel, by decide +kernel⟩, List.mem_of_getElem? (i := 1282) (by decide +kernel), List.mem_of_getElem? (i := 1594) (by decide +kernel), List.mem_of_getElem? (i := 1595) (by decide +kernel)⟩
theorem lw_p71 : lw_okq (⟨"OboeDistrictModel", "bearsOf", "(I)I"⟩, 55) := ⟨⟨by decide +kernel, by decide +kernel⟩, List.mem_of_getElem? (i := 1282) (by decide +kernel), List.mem_of_getElem? (i := 1598) (by decide +kernel), List.mem_of_getElem? (i := 1599) (by decide +kernel)⟩
theorem lw_p72 : lw_okq (⟨"OboeDistrictModel", "burdenOf", "(II)I"⟩, 55) := ⟨⟨by decide +kernel, by decide +kernel⟩, List.mem_of_getElem? (i := 1282) (by decide +kernel), List.mem_of_getElem? (i := 1602) (by decide +kernel), List.mem_of_getElem? (i := 1603) (by decide +kernel)⟩
theorem lw_p73 : lw_okq (⟨"OboeDistrictModel", "isMark", "(I)Z"⟩, 55) := ⟨⟨by decide +kernel, by decide +kernel⟩, List.mem_of_getElem? (i := 1282) (by decide +kernel), List.mem_of_getElem? (i := 1610) (by decide +kernel), List.mem_of_getElem? (i := 1611) (by decide +kernel)⟩
theorem lw_p74 : lw_okq (⟨"OboeDistrictModel", "laysSets", "()V"⟩, 55) := ⟨⟨by decide +kernel, by decide +kernel⟩, List.mem_of_getElem? (i := 1282) (by decide +kernel), List.mem_of_getElem? (i := 1618) (by decide +kernel), List.mem_of_getElem? (i := 1619) (by decide +kernel)⟩
theorem lw_p75 : lw_okq (⟨"OboeDistrictModel", "isSet", "(I)Z"⟩, 55) := ⟨⟨by decide +kernel, by decide +kernel⟩, List.mem_of_getElem? (i := 1282) (by decide +kernel), List.mem_of_getElem? (i := 1622) (by decide +kernel), List.mem_of_getElem? (i := 1623) (by decide +kernel)⟩
theorem lw_p76 : lw_okq (⟨"OboeDistrictModel", "setMany", "()I"⟩, 55) := ⟨⟨by decide +kernel, by decide +kernel⟩, List.mem_of_getElem? (i := 1282) (by decide +kernel), List.mem_of_getElem? (i := 1626) (by decide +kernel), List.mem_of_getElem? (i := 1627) (by decide +kernel)⟩
theorem lw_p77 : lw_okq (⟨"OboeDistrictModel", "dueOf", "(II)I"⟩, 55) := ⟨⟨by decide +kernel, by decide +kernel⟩, List.mem_of_getElem? (i := 1282) (by decide +kernel), List.mem_of_getElem? (i := 1637) (by decide +kernel), List.mem_of_getElem? (i := 1638) (by decide +kernel)⟩
theorem lw_p78 : lw_okq (⟨"OboeDistrictModel", "haveSet", "(I)I"⟩, 55) := ⟨⟨by decide +kernel, by decide +kernel⟩, List.mem_of_getElem? (i := 1282) (by decide +kernel), List.mem_of_getElem? (i := 1645) (by decide +kernel), List.mem_of_getElem? (i := 1646) (by decide +kernel)⟩
theorem lw_p79 : lw_okq (⟨"OboeDistrictModel", "offOf", "(II)I"⟩, 55) := ⟨⟨by decide +kernel, by decide +kernel⟩, List.mem_of_getElem? (i := 1282) (by decide +kernel), List.mem_of_getElem? (i := 1657) (by decide +kernel), List.mem_of_getElem? (i := 1658) (by decide +kernel)⟩
def lw_privs_5 : List (MethodName × Nat) := [(⟨"OboeDistrictModel", "pair", "(III)Z"⟩, 55), (⟨"OboeDistrictModel", "readHate", "()Z"⟩, 55), (⟨"OboeDistrictModel", "sign", "(I)Z"⟩, 55), (⟨"OboeDistrictModel", "isSign", "(I)Z"⟩, 55), (⟨"OboeDistrictModel", "isPerson", "(I)Z"⟩, 55), (⟨"OboeDistrictModel", "throwsIf", "(Z)Z"⟩, 55), (⟨"OboeDistrictModel", "isAway", "(I)Z"⟩, 55), (⟨"OboeDistrictModel", "bearsOf", "(I)I"⟩, 55), (⟨"OboeDistrictModel", "burdenOf", "(II)I"⟩, 55), (⟨"OboeDistrictModel", "isMark", "(I)Z"⟩, 55), (⟨"OboeDistrictModel", "laysSets", "()V"⟩, 55), (⟨"OboeDistrictModel", "isSet", "(I)Z"⟩, 55), (⟨"OboeDistrictModel", "setMany", "()I"⟩, 55), (⟨"OboeDistrictModel", "dueOf", "(II)I"⟩, 55), (⟨"OboeDistrictModel", "haveSet", "(I)I"⟩, 55), (⟨"OboeDistrictModel", "offOf", "(II)I"⟩, 55)]
theorem lw_r5 : ∀ q ∈ lw_privs_5, lw_okq q := List.forall_mem_cons.mpr ⟨lw_p64, List.forall_mem_cons.mpr ⟨lw_p65, List.forall_mem_cons.mpr ⟨lw_p66, List.forall_mem_cons.mpr ⟨lw_p67, List.forall_mem_cons.mpr ⟨lw_p68, List.forall_mem_cons.mpr ⟨lw_p69, List.forall_mem_cons.mpr ⟨lw_p70, List.forall_mem_cons.mpr ⟨lw_p71, List.forall_mem_cons.mpr ⟨lw_p72, List.forall_mem_cons.mpr ⟨lw_p73, List.forall_mem_cons.mpr ⟨lw_p74, List.forall_mem_cons.mpr ⟨lw_p75, List.forall_mem_cons.mpr ⟨lw_p76, List.forall_mem_cons.mpr ⟨lw_p77, List.forall_mem_cons.mpr ⟨lw_p78, List.forall_mem_cons.mpr ⟨lw_p79, fun _ h => absurd h List.not_mem_nil⟩⟩⟩⟩⟩⟩⟩⟩⟩⟩⟩⟩⟩⟩⟩⟩
theorem lw_p80 : lw_okq (⟨"OboeDistrictModel", "offBy", "(III)I"⟩, 55) := ⟨⟨by decide +kernel, by decide +kernel⟩, List.mem_of_getElem? (i := 1282) (by decide +kernel), List.mem_of_getElem? (i := 1661) (by decide +kernel), List.mem_of_getElem? (i := 1662) (by decide +kernel)⟩
theorem lw_p81 : lw_okq (⟨"OboeDistrictModel", "offAll", "()I"⟩, 55) := ⟨⟨by decide +kernel, by decide +kernel⟩, List.mem_of_getElem? (i := 1282) (by decide +kernel), List.mem_of_getElem? (i := 1672) (by decide +kernel), List.mem_of_getElem? (i := 1673) (by decide +kernel)⟩
theorem lw_p82 : lw_okq (⟨"OboeDistrictModel", "whyGive", "(II)I"⟩, 55) := ⟨⟨by decide +kernel, by decide +kernel⟩, List.mem_of_getElem? (i := 1282) (by decide +kernel), List.mem_of_getElem? (i := 1680) (by decide +kernel), List.mem_of_getElem? (i := 1681) (by decide +kernel)⟩
theorem lw_p83 : lw_okq (⟨"OboeDistrictModel", "keep", "()V"⟩, 55) := ⟨⟨by decide +kernel, by decide +kernel⟩, List.mem_of_getElem? (i := 1282) (by decide +kernel), List.mem_of_getElem? (i := 1684) (by decide +kernel), List.mem_of_getElem? (i := 1685) (by decide +kernel)⟩
theorem lw_p84 : lw_okq (⟨"OboeDistrictModel", "whyTake", "(II)I"⟩, 55) := ⟨⟨by decide +kernel, by decide +kernel⟩, List.mem_of_getElem? (i := 1282) (by decide +kernel), List.mem_of_getElem? (i := 1692) (by decide +kernel), List.mem_of_getElem? (i := 1693) (by decide +kernel)⟩
theorem lw_p85 : lw_okq (⟨"OboeDistrictModel", "isStreet", "(I)Z"⟩, 55) := ⟨⟨by decide +kernel, by decide +kernel⟩, List.mem_of_getElem? (i := 1282) (by decide +kernel), List.mem_of_getElem? (i := 1700) (by decide +kernel), List.mem_of_getElem? (i := 1701) (by decide +kernel)⟩
theorem lw_p86 : lw_okq (⟨"OboeDistrictModel", "whyMove", "(II)I"⟩, 55) := ⟨⟨by decide +kernel, by decide +kernel⟩, List.mem_of_getElem? (i := 1282) (by decide +kernel), List.mem_of_getElem? (i := 1704) (by decide +kernel), List.mem_of_getElem? (i := 1705) (by decide +kernel)⟩
theorem lw_p87 : lw_okq (⟨"OboeDistrictModel", "comesOrGoes", "(IZ)I"⟩, 55) := ⟨⟨by decide +kernel, by decide +kernel⟩, List.mem_of_getElem? (i := 1282) (by decide +kernel), List.mem_of_getElem? (i := 1712) (by decide +kernel), List.mem_of_getElem? (i := 1713) (by decide +kernel)⟩
theorem lw_p88 : lw_okq (⟨"OboeDistrictModel", "goesOn", "(I)I"⟩, 55) := ⟨⟨by decide +kernel, by decide +kernel⟩, List.mem_of_getElem? (i := 1282) (by decide +kernel), List.mem_of_getElem? (i := 1724) (by decide +kernel), List.mem_of_getElem? (i := 1725) (by decide +kernel)⟩
theorem lw_p89 : lw_okq (⟨"OboeDistrictModel", "year", "()V"⟩, 55) := ⟨⟨by decide +kernel, by decide +kernel⟩, List.mem_of_getElem? (i := 1282) (by decide +kernel), List.mem_of_getElem? (i := 1728) (by decide +kernel), List.mem_of_getElem? (i := 1729) (by decide +kernel)⟩
theorem lw_p90 : lw_okq (⟨"OboeDistrictModel", "changesOf", "(I)Z"⟩, 55) := ⟨⟨by decide +kernel, by decide +kernel⟩, List.mem_of_getElem? (i := 1282) (by decide +kernel), List.mem_of_getElem? (i := 1732) (by decide +kernel), List.mem_of_getElem? (i := 1733) (by decide +kernel)⟩
theorem lw_p91 : lw_okq (⟨"OboeDistrictModel", "leastSet", "(I)I"⟩, 55) := ⟨⟨by decide +kernel, by decide +kernel⟩, List.mem_of_getElem? (i := 1282) (by decide +kernel), List.mem_of_getElem? (i := 1744) (by decide +kernel), List.mem_of_getElem? (i := 1745) (by decide +kernel)⟩
theorem lw_p92 : lw_okq (⟨"OboeDistrictModel", "here", "()I"⟩, 55) := ⟨⟨by decide +kernel, by decide +kernel⟩, List.mem_of_getElem? (i := 1282) (by decide +kernel), List.mem_of_getElem? (i := 1748) (by decide +kernel), List.mem_of_getElem? (i := 1749) (by decide +kernel)⟩
theorem lw_p93 : lw_okq (⟨"OboeDistrictModel", "burdensOf", "(II)I"⟩, 55) := ⟨⟨by decide +kernel, by decide +kernel⟩, List.mem_of_getElem? (i := 1282) (by decide +kernel), List.mem_of_getElem? (i := 1752) (by decide +kernel), List.mem_of_getElem? (i := 1753) (by decide +kernel)⟩
theorem lw_p94 : lw_okq (⟨"OboeDistrictModel", "laysFamilies", "(I)V"⟩, 55) := ⟨⟨by decide +kernel, by decide +kernel⟩, List.mem_of_getElem? (i := 1282) (by decide +kernel), List.mem_of_getElem? (i := 1768) (by decide +kernel), List.mem_of_getElem? (i := 1769) (by decide +kernel)⟩
theorem lw_p95 : lw_okq (⟨"OboeDistrictModel", "offAt", "(II)I"⟩, 55) := ⟨⟨by decide +kernel, by decide +kernel⟩, List.mem_of_getElem? (i := 1282) (by decide +kernel), List.mem_of_getElem? (i := 1788) (by decide +kernel), List.mem_of_getElem? (i := 1789) (by decide +kernel)⟩
def lw_privs_6 : List (MethodName × Nat) := [(⟨"OboeDistrictModel", "offBy", "(III)I"⟩, 55), (⟨"OboeDistrictModel", "offAll", "()I"⟩, 55), (⟨"OboeDistrictModel", "whyGive", "(II)I"⟩, 55), (⟨"OboeDistrictModel", "keep", "()V"⟩, 55), (⟨"OboeDistrictModel", "whyTake", "(II)I"⟩, 55), (⟨"OboeDistrictModel", "isStreet", "(I)Z"⟩, 55), (⟨"OboeDistrictModel", "whyMove", "(II)I"⟩, 55), (⟨"OboeDistrictModel", "comesOrGoes", "(IZ)I"⟩, 55), (⟨"OboeDistrictModel", "goesOn", "(I)I"⟩, 55), (⟨"OboeDistrictModel", "year", "()V"⟩, 55), (⟨"OboeDistrictModel", "changesOf", "(I)Z"⟩, 55), (⟨"OboeDistrictModel", "leastSet", "(I)I"⟩, 55), (⟨"OboeDistrictModel", "here", "()I"⟩, 55), (⟨"OboeDistrictModel", "burdensOf", "(II)I"⟩, 55), (⟨"OboeDistrictModel", "laysFamilies", "(I)V"⟩, 55), (⟨"OboeDistrictModel", "offAt", "(II)I"⟩, 55)]
theorem lw_r6 : ∀ q ∈ lw_privs_6, lw_okq q := List.forall_mem_cons.mpr ⟨lw_p80, List.forall_mem_cons.mpr ⟨lw_p81, List.forall_mem_cons.mpr ⟨lw_p82, List.forall_mem_cons.mpr ⟨lw_p83, List.forall_mem_cons.mpr ⟨lw_p84, List.forall_mem_cons.mpr ⟨lw_p85, List.forall_mem_cons.mpr ⟨lw_p86, List.forall_mem_cons.mpr ⟨lw_p87, List.forall_mem_cons.mpr ⟨lw_p88, List.forall_mem_cons.mpr ⟨lw_p89, List.forall_mem_cons.mpr ⟨lw_p90, List.forall_mem_cons.mpr ⟨lw_p91, List.forall_mem_cons.mpr ⟨lw_p92, List.forall_mem_cons.mpr ⟨lw_p93, List.forall_mem_cons.mpr ⟨lw_p94, List.forall_mem_cons.mpr ⟨lw_p95, fun _ h => absurd h List.not_mem_nil⟩⟩⟩⟩⟩⟩⟩⟩⟩⟩⟩⟩⟩⟩⟩⟩
theorem lw_p96 : lw_okq (⟨"OboeDistrictModel", "gathers", "([II)I"⟩, 55) := ⟨⟨by decide +kernel, by decide +kernel⟩, List.mem_of_getElem? (i := 1282) (by decide +kernel), List.mem_of_getElem? (i := 1796) (by decide +kernel), List.mem_of_getElem? (i := 1797) (by decide +kernel)⟩
theorem lw_p97 : lw_okq (⟨"OboeDistrictModel", "octet", "(I)I"⟩, 55) := ⟨⟨by decide +kernel, by decide +kernel⟩, List.mem_of_getElem? (i := 1282) (by decide +kernel), List.mem_of_getElem? (i := 1809) (by decide +kernel), List.mem_of_getElem? (i := 1810) (by decide +kernel)⟩
theorem lw_p98 : lw_okq (⟨"OboeDistrictModel", "isCounted", "(I)Z"⟩, 55) := ⟨⟨by decide +kernel, by decide +kernel⟩, List.mem_of_getElem? (i := 1282) (by decide +kernel), List.mem_of_getElem? (i := 1813) (by decide +kernel), List.mem_of_getElem? (i := 1814) (by decide +kernel)⟩
theorem lw_p99 : lw_okq (⟨"OboeDistrictModel", "leftBy", "(II)I"⟩, 55) := ⟨⟨by decide +kernel, by decide +kernel⟩, List.mem_of_getElem? (i := 1282) (by decide +kernel), List.mem_of_getElem? (i := 1817) (by decide +kernel), List.mem_of_getElem? (i := 1818) (by decide +kernel)⟩
theorem lw_p100 : lw_okq (⟨"OboeDistrictModel", "isTram", "(I)Z"⟩, 55) := ⟨⟨by decide +kernel, by decide +kernel⟩, List.mem_of_getElem? (i := 1282) (by decide +kernel), List.mem_of_getElem? (i := 1833) (by decide +kernel), List.mem_of_getElem? (i := 1834) (by decide +kernel)⟩
theorem lw_p101 : lw_okq (⟨"OboeDistrictModel", "tries", "()V"⟩, 55) := ⟨⟨by decide +kernel, by decide +kernel⟩, List.mem_of_getElem? (i := 1282) (by decide +kernel), List.mem_of_getElem? (i := 1841) (by decide +kernel), List.mem_of_getElem? (i := 1842) (by decide +kernel)⟩
theorem lw_p102 : lw_okq (⟨"OboeDistrictModel", "back", "()V"⟩, 55) := ⟨⟨by decide +kernel, by decide +kernel⟩, List.mem_of_getElem? (i := 1282) (by decide +kernel), List.mem_of_getElem? (i := 1845) (by decide +kernel), List.mem_of_getElem? (i := 1846) (by decide +kernel)⟩
theorem lw_p103 : lw_okq (⟨"OboeDistrictModel", "spells", "(J)V"⟩, 55) := ⟨⟨by decide +kernel, by decide +kernel⟩, List.mem_of_getElem? (i := 1282) (by decide +kernel), List.mem_of_getElem? (i := 1853) (by decide +kernel), List.mem_of_getElem? (i := 1854) (by decide +kernel)⟩
theorem lw_p104 : lw_okq (⟨"OboeDistrictModel", "lays", "(I)V"⟩, 55) := ⟨⟨by decide +kernel, by decide +kernel⟩, List.mem_of_getElem? (i := 1282) (by decide +kernel), List.mem_of_getElem? (i := 1858) (by decide +kernel), List.mem_of_getElem? (i := 1859) (by decide +kernel)⟩
theorem lw_p105 : lw_okq (⟨"OboeDistrictModel", "says", "(J)V"⟩, 55) := ⟨⟨by decide +kernel, by decide +kernel⟩, List.mem_of_getElem? (i := 1282) (by decide +kernel), List.mem_of_getElem? (i := 1863) (by decide +kernel), List.mem_of_getElem? (i := 1864) (by decide +kernel)⟩
theorem lw_p106 : lw_okq (⟨"OboeDistrictModel", "draws", "(II)I"⟩, 55) := ⟨⟨by decide +kernel, by decide +kernel⟩, List.mem_of_getElem? (i := 1282) (by decide +kernel), List.mem_of_getElem? (i := 1876) (by decide +kernel), List.mem_of_getElem? (i := 1877) (by decide +kernel)⟩
theorem lw_p107 : lw_okq (⟨"OboeDistrictModel", "drawPerson", "()V"⟩, 55) := ⟨⟨by decide +kernel, by decide +kernel⟩, List.mem_of_getElem? (i := 1282) (by decide +kernel), List.mem_of_getElem? (i := 1880) (by decide +kernel), List.mem_of_getElem? (i := 1881) (by decide +kernel)⟩
theorem lw_p108 : lw_okq (⟨"OboeDistrictModel", "draw", "(I)I"⟩, 55) := ⟨⟨by decide +kernel, by decide +kernel⟩, List.mem_of_getElem? (i := 1282) (by decide +kernel), List.mem_of_getElem? (i := 1884) (by decide +kernel), List.mem_of_getElem? (i := 1885) (by decide +kernel)⟩
theorem lw_p109 : lw_okq (⟨"OboeDistrictModel", "bookLine", "()Z"⟩, 55) := ⟨⟨by decide +kernel, by decide +kernel⟩, List.mem_of_getElem? (i := 1282) (by decide +kernel), List.mem_of_getElem? (i := 1897) (by decide +kernel), List.mem_of_getElem? (i := 1898) (by decide +kernel)⟩
theorem lw_p110 : lw_okq (⟨"OboeDistrictModel", "does", "(III)I"⟩, 55) := ⟨⟨by decide +kernel, by decide +kernel⟩, List.mem_of_getElem? (i := 1282) (by decide +kernel), List.mem_of_getElem? (i := 1901) (by decide +kernel), List.mem_of_getElem? (i := 1902) (by decide +kernel)⟩
theorem lw_p111 : lw_okq (⟨"OboeDistrictModel", "nots", "()V"⟩, 55) := ⟨⟨by decide +kernel, by decide +kernel⟩, List.mem_of_getElem? (i := 1282) (by decide +kernel), List.mem_of_getElem? (i := 1913) (by decide +kernel), List.mem_of_getElem? (i := 1914) (by decide +kernel)⟩
def lw_privs_7 : List (MethodName × Nat) := [(⟨"OboeDistrictModel", "gathers", "([II)I"⟩, 55), (⟨"OboeDistrictModel", "octet", "(I)I"⟩, 55), (⟨"OboeDistrictModel", "isCounted", "(I)Z"⟩, 55), (⟨"OboeDistrictModel", "leftBy", "(II)I"⟩, 55), (⟨"OboeDistrictModel", "isTram", "(I)Z"⟩, 55), (⟨"OboeDistrictModel", "tries", "()V"⟩, 55), (⟨"OboeDistrictModel", "back", "()V"⟩, 55), (⟨"OboeDistrictModel", "spells", "(J)V"⟩, 55), (⟨"OboeDistrictModel", "lays", "(I)V"⟩, 55), (⟨"OboeDistrictModel", "says", "(J)V"⟩, 55), (⟨"OboeDistrictModel", "draws", "(II)I"⟩, 55), (⟨"OboeDistrictModel", "drawPerson", "()V"⟩, 55), (⟨"OboeDistrictModel", "draw", "(I)I"⟩, 55), (⟨"OboeDistrictModel", "bookLine", "()Z"⟩, 55), (⟨"OboeDistrictModel", "does", "(III)I"⟩, 55), (⟨"OboeDistrictModel", "nots", "()V"⟩, 55)]
theorem lw_r7 : ∀ q ∈ lw_privs_7, lw_okq q := List.forall_mem_cons.mpr ⟨lw_p96, List.forall_mem_cons.mpr ⟨lw_p97, List.forall_mem_cons.mpr ⟨lw_p98, List.forall_mem_cons.mpr ⟨lw_p99, List.forall_mem_cons.mpr ⟨lw_p100, List.forall_mem_cons.mpr ⟨lw_p101, List.forall_mem_cons.mpr ⟨lw_p102, List.forall_mem_cons.mpr ⟨lw_p103, List.forall_mem_cons.mpr ⟨lw_p104, List.forall_mem_cons.mpr ⟨lw_p105, List.forall_mem_cons.mpr ⟨lw_p106, List.forall_mem_cons.mpr ⟨lw_p107, List.forall_mem_cons.mpr ⟨lw_p108, List.forall_mem_cons.mpr ⟨lw_p109, List.forall_mem_cons.mpr ⟨lw_p110, List.forall_mem_cons.mpr ⟨lw_p111, fun _ h => absurd h List.not_mem_nil⟩⟩⟩⟩⟩⟩⟩⟩⟩⟩⟩⟩⟩⟩⟩⟩
theorem lw_p112 : lw_okq (⟨"OboeDistrictModel", "code", "(III)V"⟩, 55) := ⟨⟨by decide +kernel, by decide +kernel⟩, List.mem_of_getElem? (i := 1282) (by decide +kernel), List.mem_of_getElem? (i := 1917) (by decide +kernel), List.mem_of_getElem? (i := 1918) (by decide +kernel)⟩
theorem lw_p113 : lw_okq (⟨"OboeDistrictModel", "joins", "(I)V"⟩, 55) := ⟨⟨by decide +kernel, by decide +kernel⟩, List.mem_of_getElem? (i := 1282) (by decide +kernel), List.mem_of_getElem? (i := 1921) (by decide +kernel), List.mem_of_getElem? (i := 1922) (by decide +kernel)⟩
theorem lw_p114 : lw_okq (⟨"OboeDistrictModel", "behind", "()Z"⟩, 55) := ⟨⟨by decide +kernel, by decide +kernel⟩, List.mem_of_getElem? (i := 1282) (by decide +kernel), List.mem_of_getElem? (i := 1925) (by decide +kernel), List.mem_of_getElem? (i := 1926) (by decide +kernel)⟩
theorem lw_p115 : lw_okq (⟨"OboeDistrictModel", "operand", "()Z"⟩, 55) := ⟨⟨by decide +kernel, by decide +kernel⟩, List.mem_of_getElem? (i := 1282) (by decide +kernel), List.mem_of_getElem? (i := 1929) (by decide +kernel), List.mem_of_getElem? (i := 1930) (by decide +kernel)⟩
theorem lw_p116 : lw_okq (⟨"OboeDistrictModel", "leafOf", "()I"⟩, 55) := ⟨⟨by decide +kernel, by decide +kernel⟩, List.mem_of_getElem? (i := 1282) (by decide +kernel), List.mem_of_getElem? (i := 1933) (by decide +kernel), List.mem_of_getElem? (i := 1934) (by decide +kernel)⟩
theorem lw_p117 : lw_okq (⟨"OboeDistrictModel", "isSaid", "(I)Z"⟩, 55) := ⟨⟨by decide +kernel, by decide +kernel⟩, List.mem_of_getElem? (i := 1282) (by decide +kernel), List.mem_of_getElem? (i := 1941) (by decide +kernel), List.mem_of_getElem? (i := 1942) (by decide +kernel)⟩
theorem lw_p118 : lw_okq (⟨"OboeDistrictModel", "isLeaf", "(IIII)Z"⟩, 55) := ⟨⟨by decide +kernel, by decide +kernel⟩, List.mem_of_getElem? (i := 1282) (by decide +kernel), List.mem_of_getElem? (i := 1945) (by decide +kernel), List.mem_of_getElem? (i := 1946) (by decide +kernel)⟩
def lw_privs_8 : List (MethodName × Nat) := [(⟨"OboeDistrictModel", "code", "(III)V"⟩, 55), (⟨"OboeDistrictModel", "joins", "(I)V"⟩, 55), (⟨"OboeDistrictModel", "behind", "()Z"⟩, 55), (⟨"OboeDistrictModel", "operand", "()Z"⟩, 55), (⟨"OboeDistrictModel", "leafOf", "()I"⟩, 55), (⟨"OboeDistrictModel", "isSaid", "(I)Z"⟩, 55), (⟨"OboeDistrictModel", "isLeaf", "(IIII)Z"⟩, 55)]
theorem lw_r8 : ∀ q ∈ lw_privs_8, lw_okq q := List.forall_mem_cons.mpr ⟨lw_p112, List.forall_mem_cons.mpr ⟨lw_p113, List.forall_mem_cons.mpr ⟨lw_p114, List.forall_mem_cons.mpr ⟨lw_p115, List.forall_mem_cons.mpr ⟨lw_p116, List.forall_mem_cons.mpr ⟨lw_p117, List.forall_mem_cons.mpr ⟨lw_p118, fun _ h => absurd h List.not_mem_nil⟩⟩⟩⟩⟩⟩⟩
def lw_privs : List (MethodName × Nat) := lw_privs_1 ++ (lw_privs_2 ++ (lw_privs_3 ++ (lw_privs_4 ++ (lw_privs_5 ++ (lw_privs_6 ++ (lw_privs_7 ++ (lw_privs_8)))))))
def lw_tbl : List Cond := k2_sels lw_privs ++ tables_1
theorem lw_privs_ok : ∀ q ∈ lw_privs, lw_okq q := by
  show ∀ q ∈ lw_privs_1 ++ (lw_privs_2 ++ (lw_privs_3 ++ (lw_privs_4 ++ (lw_privs_5 ++ (lw_privs_6 ++ (lw_privs_7 ++ (lw_privs_8))))))), lw_okq q
  exact List.forall_mem_append.mpr ⟨lw_r1, List.forall_mem_append.mpr ⟨lw_r2, List.forall_mem_append.mpr ⟨lw_r3, List.forall_mem_append.mpr ⟨lw_r4, List.forall_mem_append.mpr ⟨lw_r5, List.forall_mem_append.mpr ⟨lw_r6, List.forall_mem_append.mpr ⟨lw_r7, lw_r8⟩⟩⟩⟩⟩⟩⟩
-- ===== end of PART A; then your names; then what follows =====
end
section
def RX0 : String := "OboeDistrict$Book"
def TX0 : u_T := fun k => match k with
  | 0 => ("OboeDistrict$Book", "verbs", "[I", true)
  | 1 => ("OboeDistrict$Book", "persons", "[I", true)
  | 2 => ("OboeDistrict$Book", "whats", "[I", true)
  | 3 => ("OboeDistrict$Book", "lineCount", "I", false)
  | 4 => ("OboeDistrict$Book", "isAnyTold", "Z", false)
  | 5 => ("OboeDistrict$Book", "whyWrong", "I", false)
  | 6 => ("OboeDistrict$Book", "rightLines", "I", false)
  | 7 => ("OboeDistrict$Book", "yearThen", "I", false)
  | _ => ("OboeDistrict$Book", "offThen", "I", false)
def tyX0 : Nat → FieldType := fun k => match k with
  | 0 => .array .int
  | 1 => .array .int
  | 2 => .array .int
  | 3 => .int
  | 4 => .boolean
  | 5 => .int
  | 6 => .int
  | 7 => .int
  | _ => .int
theorem nmX0 : ∀ a, a < 9 → ∀ b, b < 9 → a ≠ b → (TX0 a).2.1 ≠ (TX0 b).2.1 := by decide +kernel
theorem tyX0_ok : ∀ k, k < 9 → parseFieldDescriptor (TX0 k).2.2.1 = some (tyX0 k) := by decide +kernel
abbrev cX0_init : ByteArray := prog_2_method_1_code
def yX0_init : MethodName := ⟨RX0, "<init>", "()V"⟩
abbrev cX0_read : ByteArray := prog_2_method_2_code
def yX0_read : MethodName := ⟨RX0, "read", "(LOboeDistrict$Tape;LOboeDistrict$Town;)Z"⟩
abbrev cX0_liveOn : ByteArray := prog_2_method_6_code
def yX0_liveOn : MethodName := ⟨RX0, "liveOn", "(LOboeDistrict$Life;)I"⟩
abbrev cX0_tell : ByteArray := prog_2_method_8_code
def yX0_tell : MethodName := ⟨RX0, "tell", "(I)I"⟩
def RX1 : String := "OboeDistrict$DistrictReader"
def TX1 : u_T := fun k => match k with
  | 0 => ("OboeDistrict$DistrictReader", "tape", "LOboeDistrict$Tape;", true)
  | 1 => ("OboeDistrict$DistrictReader", "town", "LOboeDistrict$Town;", false)
  | _ => ("OboeDistrict$DistrictReader", "life", "LOboeDistrict$Life;", false)
def tyX1 : Nat → FieldType := fun k => match k with
  | 0 => .object "OboeDistrict$Tape"
  | 1 => .object "OboeDistrict$Town"
  | _ => .object "OboeDistrict$Life"
theorem nmX1 : ∀ a, a < 3 → ∀ b, b < 3 → a ≠ b → (TX1 a).2.1 ≠ (TX1 b).2.1 := by decide +kernel
theorem tyX1_ok : ∀ k, k < 3 → parseFieldDescriptor (TX1 k).2.2.1 = some (tyX1 k) := by decide +kernel
abbrev cX1_init : ByteArray := prog_3_method_1_code
def yX1_init : MethodName := ⟨RX1, "<init>", "(LOboeDistrict$Tape;)V"⟩
abbrev cX1_read : ByteArray := prog_3_method_2_code
def yX1_read : MethodName := ⟨RX1, "read", "(LOboeDistrict$Life;)I"⟩
def RX2 : String := "OboeDistrict$Life"
def TX2 : u_T := fun k => match k with
  | 0 => ("OboeDistrict$Life", "town", "LOboeDistrict$Town;", false)
  | 1 => ("OboeDistrict$Life", "away", "I", false)
  | 2 => ("OboeDistrict$Life", "year", "I", false)
  | 3 => ("OboeDistrict$Life", "wrongs", "I", false)
  | 4 => ("OboeDistrict$Life", "changesMade", "I", false)
  | 5 => ("OboeDistrict$Life", "drawState", "I", false)
  | 6 => ("OboeDistrict$Life", "street", "[I", true)
  | 7 => ("OboeDistrict$Life", "holders", "[I", true)
  | 8 => ("OboeDistrict$Life", "insiders", "[I", true)
  | 9 => ("OboeDistrict$Life", "setsOf", "[I", true)
  | _ => ("OboeDistrict$Life", "dues", "[I", true)
def tyX2 : Nat → FieldType := fun k => match k with
  | 0 => .object "OboeDistrict$Town"
  | 1 => .int
  | 2 => .int
  | 3 => .int
  | 4 => .int
  | 5 => .int
  | 6 => .array .int
  | 7 => .array .int
  | 8 => .array .int
  | 9 => .array .int
  | _ => .array .int
theorem nmX2 : ∀ a, a < 11 → ∀ b, b < 11 → a ≠ b → (TX2 a).2.1 ≠ (TX2 b).2.1 := by decide +kernel
theorem tyX2_ok : ∀ k, k < 11 → parseFieldDescriptor (TX2 k).2.2.1 = some (tyX2 k) := by decide +kernel
abbrev cX2_init : ByteArray := prog_4_method_1_code
def yX2_init : MethodName := ⟨RX2, "<init>", "(LOboeDistrict$Town;)V"⟩
abbrev cX2_beginIn : ByteArray := prog_4_method_2_code
def yX2_beginIn : MethodName := ⟨RX2, "beginIn", "(LOboeDistrict$Town;)V"⟩
abbrev cX2_copyFrom : ByteArray := prog_4_method_3_code
def yX2_copyFrom : MethodName := ⟨RX2, "copyFrom", "(LOboeDistrict$Life;)V"⟩
abbrev cX2_gatherSets : ByteArray := prog_4_method_4_code
def yX2_gatherSets : MethodName := ⟨RX2, "gatherSets", "()V"⟩
abbrev cX2_gatherSetsOfEach : ByteArray := prog_4_method_5_code
def yX2_gatherSetsOfEach : MethodName := ⟨RX2, "gatherSetsOfEach", "()V"⟩
abbrev cX2_gatherDues : ByteArray := prog_4_method_6_code
def yX2_gatherDues : MethodName := ⟨RX2, "gatherDues", "()V"⟩
abbrev cX2_burdensOfAll : ByteArray := prog_4_method_10_code
def yX2_burdensOfAll : MethodName := ⟨RX2, "burdensOfAll", "()I"⟩
abbrev cX2_offOfAll : ByteArray := prog_4_method_14_code
def yX2_offOfAll : MethodName := ⟨RX2, "offOfAll", "()I"⟩
abbrev cX2_goYears : ByteArray := prog_4_method_17_code
def yX2_goYears : MethodName := ⟨RX2, "goYears", "(I)I"⟩
abbrev cX2_goYear : ByteArray := prog_4_method_22_code
def yX2_goYear : MethodName := ⟨RX2, "goYear", "()I"⟩
def RX3 : String := "OboeDistrict$Past"
def TX3 : u_T := fun k => match k with
  | 0 => ("OboeDistrict$Past", "lives", "[LOboeDistrict$Life;", true)
  | _ => ("OboeDistrict$Past", "kept", "I", false)
def tyX3 : Nat → FieldType := fun k => match k with
  | 0 => .array (.object "OboeDistrict$Life")
  | _ => .int
theorem nmX3 : ∀ a, a < 2 → ∀ b, b < 2 → a ≠ b → (TX3 a).2.1 ≠ (TX3 b).2.1 := by decide +kernel
theorem tyX3_ok : ∀ k, k < 2 → parseFieldDescriptor (TX3 k).2.2.1 = some (tyX3 k) := by decide +kernel
abbrev cX3_init : ByteArray := prog_5_method_1_code
def yX3_init : MethodName := ⟨RX3, "<init>", "(LOboeDistrict$Town;)V"⟩
abbrev cX3_forget : ByteArray := prog_5_method_2_code
def yX3_forget : MethodName := ⟨RX3, "forget", "()V"⟩
abbrev cX3_keep : ByteArray := prog_5_method_3_code
def yX3_keep : MethodName := ⟨RX3, "keep", "(LOboeDistrict$Life;)V"⟩
abbrev cX3_takeBack : ByteArray := prog_5_method_5_code
def yX3_takeBack : MethodName := ⟨RX3, "takeBack", "(LOboeDistrict$Life;)I"⟩
def RX4 : String := "OboeDistrict$Plate"
def TX4 : u_T := fun k => match k with
  | 0 => ("OboeDistrict$Plate", "bytes", "[I", true)
  | _ => ("OboeDistrict$Plate", "length", "I", false)
def tyX4 : Nat → FieldType := fun k => match k with
  | 0 => .array .int
  | _ => .int
theorem nmX4 : ∀ a, a < 2 → ∀ b, b < 2 → a ≠ b → (TX4 a).2.1 ≠ (TX4 b).2.1 := by decide +kernel
theorem tyX4_ok : ∀ k, k < 2 → parseFieldDescriptor (TX4 k).2.2.1 = some (tyX4 k) := by decide +kernel
abbrev cX4_init : ByteArray := prog_6_method_1_code
def yX4_init : MethodName := ⟨RX4, "<init>", "()V"⟩
def RX5 : String := "OboeDistrict$Search"
def TX5 : u_T := fun k => match k with
  | 0 => ("OboeDistrict$Search", "leastWho", "I", false)
  | 1 => ("OboeDistrict$Search", "leastBurdens", "I", false)
  | 2 => ("OboeDistrict$Search", "familySets", "I", false)
  | 3 => ("OboeDistrict$Search", "changedWho", "I", false)
  | 4 => ("OboeDistrict$Search", "offs", "[I", true)
  | 5 => ("OboeDistrict$Search", "shared", "[I", true)
  | 6 => ("OboeDistrict$Search", "possible", "[I", true)
  | 7 => ("OboeDistrict$Search", "burdenRow", "[I", true)
  | 8 => ("OboeDistrict$Search", "foundWho", "I", false)
  | _ => ("OboeDistrict$Search", "foundBurdens", "I", false)
def tyX5 : Nat → FieldType := fun k => match k with
  | 0 => .int
  | 1 => .int
  | 2 => .int
  | 3 => .int
  | 4 => .array .int
  | 5 => .array .int
  | 6 => .array .int
  | 7 => .array .int
  | 8 => .int
  | _ => .int
theorem nmX5 : ∀ a, a < 10 → ∀ b, b < 10 → a ≠ b → (TX5 a).2.1 ≠ (TX5 b).2.1 := by decide +kernel
theorem tyX5_ok : ∀ k, k < 10 → parseFieldDescriptor (TX5 k).2.2.1 = some (tyX5 k) := by decide +kernel
abbrev cX5_init : ByteArray := prog_7_method_1_code
def yX5_init : MethodName := ⟨RX5, "<init>", "()V"⟩
def RX6 : String := "OboeDistrict$Sentence"
def TX6 : u_T := fun k => match k with
  | 0 => ("OboeDistrict$Sentence", "ops", "[I", true)
  | 1 => ("OboeDistrict$Sentence", "signs", "[I", true)
  | 2 => ("OboeDistrict$Sentence", "numbers", "[I", true)
  | 3 => ("OboeDistrict$Sentence", "stack", "[I", true)
  | _ => ("OboeDistrict$Sentence", "steps", "I", false)
def tyX6 : Nat → FieldType := fun k => match k with
  | 0 => .array .int
  | 1 => .array .int
  | 2 => .array .int
  | 3 => .array .int
  | _ => .int
theorem nmX6 : ∀ a, a < 5 → ∀ b, b < 5 → a ≠ b → (TX6 a).2.1 ≠ (TX6 b).2.1 := by decide +kernel
theorem tyX6_ok : ∀ k, k < 5 → parseFieldDescriptor (TX6 k).2.2.1 = some (tyX6 k) := by decide +kernel
abbrev cX6_init : ByteArray := prog_8_method_1_code
def yX6_init : MethodName := ⟨RX6, "<init>", "()V"⟩
def RX7 : String := "OboeDistrict$SentenceReader"
def TX7 : u_T := fun k => match k with
  | 0 => ("OboeDistrict$SentenceReader", "tape", "LOboeDistrict$Tape;", true)
  | 1 => ("OboeDistrict$SentenceReader", "town", "LOboeDistrict$Town;", false)
  | 2 => ("OboeDistrict$SentenceReader", "sentence", "LOboeDistrict$Sentence;", false)
  | _ => ("OboeDistrict$SentenceReader", "ones", "I", false)
def tyX7 : Nat → FieldType := fun k => match k with
  | 0 => .object "OboeDistrict$Tape"
  | 1 => .object "OboeDistrict$Town"
  | 2 => .object "OboeDistrict$Sentence"
  | _ => .int
theorem nmX7 : ∀ a, a < 4 → ∀ b, b < 4 → a ≠ b → (TX7 a).2.1 ≠ (TX7 b).2.1 := by decide +kernel
theorem tyX7_ok : ∀ k, k < 4 → parseFieldDescriptor (TX7 k).2.2.1 = some (tyX7 k) := by decide +kernel
abbrev cX7_init : ByteArray := prog_9_method_1_code
def yX7_init : MethodName := ⟨RX7, "<init>", "(LOboeDistrict$Tape;)V"⟩
abbrev cX7_read : ByteArray := prog_9_method_2_code
def yX7_read : MethodName := ⟨RX7, "read", "(LOboeDistrict$Sentence;LOboeDistrict$Town;)I"⟩
abbrev cX7_readCond : ByteArray := prog_9_method_3_code
def yX7_readCond : MethodName := ⟨RX7, "readCond", "(I)Z"⟩
abbrev cX7_readAll : ByteArray := prog_9_method_4_code
def yX7_readAll : MethodName := ⟨RX7, "readAll", "(I)Z"⟩
abbrev cX7_readOne : ByteArray := prog_9_method_5_code
def yX7_readOne : MethodName := ⟨RX7, "readOne", "(I)Z"⟩
def RX8 : String := "OboeDistrict$Tally"
def TX8 : u_T := fun k => match k with
  | 0 => ("OboeDistrict$Tally", "inEach", "I", false)
  | 1 => ("OboeDistrict$Tally", "nextSet", "I", false)
  | 2 => ("OboeDistrict$Tally", "groups", "[I", true)
  | 3 => ("OboeDistrict$Tally", "ofSize", "[I", true)
  | _ => ("OboeDistrict$Tally", "left", "I", false)
def tyX8 : Nat → FieldType := fun k => match k with
  | 0 => .int
  | 1 => .int
  | 2 => .array .int
  | 3 => .array .int
  | _ => .int
theorem nmX8 : ∀ a, a < 5 → ∀ b, b < 5 → a ≠ b → (TX8 a).2.1 ≠ (TX8 b).2.1 := by decide +kernel
theorem tyX8_ok : ∀ k, k < 5 → parseFieldDescriptor (TX8 k).2.2.1 = some (tyX8 k) := by decide +kernel
abbrev cX8_init : ByteArray := prog_10_method_1_code
def yX8_init : MethodName := ⟨RX8, "<init>", "()V"⟩
abbrev cX8_countGroups : ByteArray := prog_10_method_2_code
def yX8_countGroups : MethodName := ⟨RX8, "countGroups", "(LOboeDistrict$Life;LOboeDistrict$Tape;)I"⟩
abbrev cX8_isAsTold : ByteArray := prog_10_method_3_code
def yX8_isAsTold : MethodName := ⟨RX8, "isAsTold", "(LOboeDistrict$Town;LOboeDistrict$Tape;)Z"⟩
def RX9 : String := "OboeDistrict$Tape"
def TX9 : u_T := fun k => match k with
  | 0 => ("OboeDistrict$Tape", "bytes", "[B", true)
  | 1 => ("OboeDistrict$Tape", "wordCodes", "[J", true)
  | 2 => ("OboeDistrict$Tape", "size", "I", false)
  | 3 => ("OboeDistrict$Tape", "kinds", "[B", true)
  | 4 => ("OboeDistrict$Tape", "starts", "[I", true)
  | 5 => ("OboeDistrict$Tape", "values", "[I", true)
  | 6 => ("OboeDistrict$Tape", "codes", "[J", true)
  | 7 => ("OboeDistrict$Tape", "tokens", "I", false)
  | 8 => ("OboeDistrict$Tape", "scanned", "I", false)
  | 9 => ("OboeDistrict$Tape", "at", "I", false)
  | 10 => ("OboeDistrict$Tape", "kind", "I", false)
  | 11 => ("OboeDistrict$Tape", "value", "I", false)
  | 12 => ("OboeDistrict$Tape", "code", "J", false)
  | 13 => ("OboeDistrict$Tape", "fault", "I", false)
  | _ => ("OboeDistrict$Tape", "faultPlace", "I", false)
def tyX9 : Nat → FieldType := fun k => match k with
  | 0 => .array .byte
  | 1 => .array .long
  | 2 => .int
  | 3 => .array .byte
  | 4 => .array .int
  | 5 => .array .int
  | 6 => .array .long
  | 7 => .int
  | 8 => .int
  | 9 => .int
  | 10 => .int
  | 11 => .int
  | 12 => .long
  | 13 => .int
  | _ => .int
theorem nmX9 : ∀ a, a < 15 → ∀ b, b < 15 → a ≠ b → (TX9 a).2.1 ≠ (TX9 b).2.1 := by decide +kernel
theorem tyX9_ok : ∀ k, k < 15 → parseFieldDescriptor (TX9 k).2.2.1 = some (tyX9 k) := by decide +kernel
abbrev cX9_init : ByteArray := prog_11_method_1_code
def yX9_init : MethodName := ⟨RX9, "<init>", "()V"⟩
abbrev cX9_putNumber : ByteArray := prog_11_method_2_code
def yX9_putNumber : MethodName := ⟨RX9, "putNumber", "(I)V"⟩
abbrev cX9_begin : ByteArray := prog_11_method_3_code
def yX9_begin : MethodName := ⟨RX9, "begin", "(I)V"⟩
abbrev cX9_scanToken : ByteArray := prog_11_method_4_code
def yX9_scanToken : MethodName := ⟨RX9, "scanToken", "(I)I"⟩
abbrev cX9_advance : ByteArray := prog_11_method_7_code
def yX9_advance : MethodName := ⟨RX9, "advance", "()V"⟩
abbrev cX9_fail : ByteArray := prog_11_method_8_code
def yX9_fail : MethodName := ⟨RX9, "fail", "(I)Z"⟩
abbrev cX9_isAtSign : ByteArray := prog_11_method_9_code
def yX9_isAtSign : MethodName := ⟨RX9, "isAtSign", "(C)Z"⟩
abbrev cX9_withLetter : ByteArray := prog_11_method_14_code
def yX9_withLetter : MethodName := ⟨RX9, "withLetter", "(JI)J"⟩
def RX10 : String := "OboeDistrict$Town"
def TX10 : u_T := fun k => match k with
  | 0 => ("OboeDistrict$Town", "counts", "[I", true)
  | 1 => ("OboeDistrict$Town", "names", "[J", true)
  | 2 => ("OboeDistrict$Town", "minds", "[I", true)
  | 3 => ("OboeDistrict$Town", "hates", "[I", true)
  | 4 => ("OboeDistrict$Town", "riders", "[I", true)
  | 5 => ("OboeDistrict$Town", "part", "[I", true)
  | 6 => ("OboeDistrict$Town", "whole", "[I", true)
  | _ => ("OboeDistrict$Town", "women", "I", false)
def tyX10 : Nat → FieldType := fun k => match k with
  | 0 => .array .int
  | 1 => .array .long
  | 2 => .array .int
  | 3 => .array .int
  | 4 => .array .int
  | 5 => .array .int
  | 6 => .array .int
  | _ => .int
theorem nmX10 : ∀ a, a < 8 → ∀ b, b < 8 → a ≠ b → (TX10 a).2.1 ≠ (TX10 b).2.1 := by decide +kernel
theorem tyX10_ok : ∀ k, k < 8 → parseFieldDescriptor (TX10 k).2.2.1 = some (tyX10 k) := by decide +kernel
abbrev cX10_init : ByteArray := prog_12_method_1_code
def yX10_init : MethodName := ⟨RX10, "<init>", "()V"⟩
abbrev cX10_setCount : ByteArray := prog_12_method_7_code
def yX10_setCount : MethodName := ⟨RX10, "setCount", "()I"⟩
abbrev cX10_everybody : ByteArray := prog_12_method_8_code
def yX10_everybody : MethodName := ⟨RX10, "everybody", "()I"⟩
def RX11 : String := "OboeDistrict"
def TX11 : u_T := fun k => match k with
  | 0 => ("OboeDistrict", "tape", "LOboeDistrict$Tape;", true)
  | 1 => ("OboeDistrict", "life", "LOboeDistrict$Life;", true)
  | 2 => ("OboeDistrict", "trial", "LOboeDistrict$Life;", true)
  | 3 => ("OboeDistrict", "past", "LOboeDistrict$Past;", true)
  | 4 => ("OboeDistrict", "images", "[LOboeDistrict$Life;", true)
  | 5 => ("OboeDistrict", "imaged", "[Z", true)
  | 6 => ("OboeDistrict", "imagedSentences", "[LOboeDistrict$Sentence;", true)
  | 7 => ("OboeDistrict", "districtReader", "LOboeDistrict$DistrictReader;", true)
  | 8 => ("OboeDistrict", "sentenceReader", "LOboeDistrict$SentenceReader;", true)
  | 9 => ("OboeDistrict", "latestBook", "LOboeDistrict$Book;", true)
  | 10 => ("OboeDistrict", "search", "LOboeDistrict$Search;", true)
  | 11 => ("OboeDistrict", "tally", "LOboeDistrict$Tally;", true)
  | 12 => ("OboeDistrict", "latestPlate", "LOboeDistrict$Plate;", true)
  | 13 => ("OboeDistrict", "nowSaid", "LOboeDistrict$Sentence;", false)
  | _ => ("OboeDistrict", "faultKind", "I", false)
def tyX11 : Nat → FieldType := fun k => match k with
  | 0 => .object "OboeDistrict$Tape"
  | 1 => .object "OboeDistrict$Life"
  | 2 => .object "OboeDistrict$Life"
  | 3 => .object "OboeDistrict$Past"
  | 4 => .array (.object "OboeDistrict$Life")
  | 5 => .array .boolean
  | 6 => .array (.object "OboeDistrict$Sentence")
  | 7 => .object "OboeDistrict$DistrictReader"
  | 8 => .object "OboeDistrict$SentenceReader"
  | 9 => .object "OboeDistrict$Book"
  | 10 => .object "OboeDistrict$Search"
  | 11 => .object "OboeDistrict$Tally"
  | 12 => .object "OboeDistrict$Plate"
  | 13 => .object "OboeDistrict$Sentence"
  | _ => .int
theorem nmX11 : ∀ a, a < 15 → ∀ b, b < 15 → a ≠ b → (TX11 a).2.1 ≠ (TX11 b).2.1 := by decide +kernel
theorem tyX11_ok : ∀ k, k < 15 → parseFieldDescriptor (TX11 k).2.2.1 = some (tyX11 k) := by decide +kernel
abbrev cX11_init : ByteArray := prog_1_method_1_code
def yX11_init : MethodName := ⟨RX11, "<init>", "()V"⟩
abbrev cX11_feed : ByteArray := prog_1_method_2_code
def yX11_feed : MethodName := ⟨RX11, "feed", "(IIIII)I"⟩
abbrev cX11_end : ByteArray := prog_1_method_3_code
def yX11_end : MethodName := ⟨RX11, "end", "(I)Z"⟩
abbrev cX11_district : ByteArray := prog_1_method_4_code
def yX11_district : MethodName := ⟨RX11, "district", "()I"⟩
abbrev cX11_fault : ByteArray := prog_1_method_5_code
def yX11_fault : MethodName := ⟨RX11, "fault", "()I"⟩
abbrev cX11_book : ByteArray := prog_1_method_6_code
def yX11_book : MethodName := ⟨RX11, "book", "(I)I"⟩
abbrev cX11_told : ByteArray := prog_1_method_7_code
def yX11_told : MethodName := ⟨RX11, "told", "(I)I"⟩
abbrev cX11_sentence : ByteArray := prog_1_method_8_code
def yX11_sentence : MethodName := ⟨RX11, "sentence", "()I"⟩
abbrev cX11_said : ByteArray := prog_1_method_9_code
def yX11_said : MethodName := ⟨RX11, "said", "(I)I"⟩
abbrev cX11_count : ByteArray := prog_1_method_10_code
def yX11_count : MethodName := ⟨RX11, "count", "(I)I"⟩
abbrev cX11_person : ByteArray := prog_1_method_11_code
def yX11_person : MethodName := ⟨RX11, "person", "(II)I"⟩
abbrev cX11_burden : ByteArray := prog_1_method_12_code
def yX11_burden : MethodName := ⟨RX11, "burden", "(II)I"⟩
abbrev cX11_members : ByteArray := prog_1_method_13_code
def yX11_members : MethodName := ⟨RX11, "members", "(I)I"⟩
abbrev cX11_due : ByteArray := prog_1_method_14_code
def yX11_due : MethodName := ⟨RX11, "due", "(II)I"⟩
abbrev cX11_have : ByteArray := prog_1_method_15_code
def yX11_have : MethodName := ⟨RX11, "have", "(II)I"⟩
abbrev cX11_rest : ByteArray := prog_1_method_16_code
def yX11_rest : MethodName := ⟨RX11, "rest", "(II)I"⟩
abbrev cX11_off : ByteArray := prog_1_method_17_code
def yX11_off : MethodName := ⟨RX11, "off", "(I)I"⟩
abbrev cX11_now : ByteArray := prog_1_method_18_code
def yX11_now : MethodName := ⟨RX11, "now", "(I)I"⟩
abbrev cX11_plate : ByteArray := prog_1_method_19_code
def yX11_plate : MethodName := ⟨RX11, "plate", "(I)I"⟩
abbrev cX11_byteAt : ByteArray := prog_1_method_20_code
def yX11_byteAt : MethodName := ⟨RX11, "byteAt", "(I)I"⟩
abbrev cX11_give : ByteArray := prog_1_method_21_code
def yX11_give : MethodName := ⟨RX11, "give", "(II)I"⟩
abbrev cX11_take : ByteArray := prog_1_method_22_code
def yX11_take : MethodName := ⟨RX11, "take", "(II)I"⟩
abbrev cX11_move : ByteArray := prog_1_method_23_code
def yX11_move : MethodName := ⟨RX11, "move", "(II)I"⟩
abbrev cX11_leave : ByteArray := prog_1_method_24_code
def yX11_leave : MethodName := ⟨RX11, "leave", "(I)I"⟩
abbrev cX11_come : ByteArray := prog_1_method_25_code
def yX11_come : MethodName := ⟨RX11, "come", "(I)I"⟩
abbrev cX11_years : ByteArray := prog_1_method_26_code
def yX11_years : MethodName := ⟨RX11, "years", "(I)I"⟩
abbrev cX11_drawn : ByteArray := prog_1_method_27_code
def yX11_drawn : MethodName := ⟨RX11, "drawn", "(II)I"⟩
abbrev cX11_undo : ByteArray := prog_1_method_28_code
def yX11_undo : MethodName := ⟨RX11, "undo", "()I"⟩
abbrev cX11_image : ByteArray := prog_1_method_29_code
def yX11_image : MethodName := ⟨RX11, "image", "(I)Z"⟩
abbrev cX11_restore : ByteArray := prog_1_method_30_code
def yX11_restore : MethodName := ⟨RX11, "restore", "(I)Z"⟩
abbrev cX11_least : ByteArray := prog_1_method_31_code
def yX11_least : MethodName := ⟨RX11, "least", "(I)I"⟩
abbrev cX11_who : ByteArray := prog_1_method_32_code
def yX11_who : MethodName := ⟨RX11, "who", "()I"⟩
abbrev cX11_burdens : ByteArray := prog_1_method_33_code
def yX11_burdens : MethodName := ⟨RX11, "burdens", "()I"⟩
abbrev cX11_family : ByteArray := prog_1_method_34_code
def yX11_family : MethodName := ⟨RX11, "family", "(I)I"⟩
abbrev cX11_familyOf : ByteArray := prog_1_method_35_code
def yX11_familyOf : MethodName := ⟨RX11, "familyOf", "()I"⟩
abbrev cX11_changes : ByteArray := prog_1_method_36_code
def yX11_changes : MethodName := ⟨RX11, "changes", "(I)I"⟩
abbrev cX11_changed : ByteArray := prog_1_method_37_code
def yX11_changed : MethodName := ⟨RX11, "changed", "()I"⟩
abbrev cX11_house : ByteArray := prog_1_method_38_code
def yX11_house : MethodName := ⟨RX11, "house", "(I)I"⟩
abbrev cX11_both : ByteArray := prog_1_method_39_code
def yX11_both : MethodName := ⟨RX11, "both", "(II)I"⟩
abbrev cX11_spared : ByteArray := prog_1_method_40_code
def yX11_spared : MethodName := ⟨RX11, "spared", "(III)I"⟩
abbrev cX11_counts : ByteArray := prog_1_method_41_code
def yX11_counts : MethodName := ⟨RX11, "counts", "()I"⟩
abbrev cX11_surely : ByteArray := prog_1_method_42_code
def yX11_surely : MethodName := ⟨RX11, "surely", "()I"⟩
abbrev cX11_look : ByteArray := prog_1_method_43_code
def yX11_look : MethodName := ⟨RX11, "look", "()I"⟩
abbrev cX11_cut : ByteArray := prog_1_method_44_code
def yX11_cut : MethodName := ⟨RX11, "cut", "(II)I"⟩
abbrev cX11_settles : ByteArray := prog_1_method_45_code
def yX11_settles : MethodName := ⟨RX11, "settles", "()I"⟩
abbrev cX11_odds : ByteArray := prog_1_method_46_code
def yX11_odds : MethodName := ⟨RX11, "odds", "(III)I"⟩
abbrev cX11_isPerson : ByteArray := prog_1_method_48_code
def yX11_isPerson : MethodName := ⟨RX11, "isPerson", "(I)Z"⟩
abbrev cX11_isMark : ByteArray := prog_1_method_49_code
def yX11_isMark : MethodName := ⟨RX11, "isMark", "(I)Z"⟩
abbrev cX11_isTram : ByteArray := prog_1_method_51_code
def yX11_isTram : MethodName := ⟨RX11, "isTram", "(I)Z"⟩
abbrev cX11_isSet : ByteArray := prog_1_method_52_code
def yX11_isSet : MethodName := ⟨RX11, "isSet", "(I)Z"⟩
abbrev cX11_isWithin : ByteArray := prog_1_method_54_code
def yX11_isWithin : MethodName := ⟨RX11, "isWithin", "(III)Z"⟩
def RX12 : String := "OboeDistrictModel"
def TX12 : u_T := fun k => match k with
  | 0 => ("OboeDistrictModel", "thrown", "I", false)
  | 1 => ("OboeDistrictModel", "tape", "[B", true)
  | 2 => ("OboeDistrictModel", "length", "I", false)
  | 3 => ("OboeDistrictModel", "size", "I", false)
  | 4 => ("OboeDistrictModel", "p", "I", false)
  | 5 => ("OboeDistrictModel", "limit", "I", false)
  | 6 => ("OboeDistrictModel", "s", "[I", true)
  | 7 => ("OboeDistrictModel", "h", "[I", true)
  | 8 => ("OboeDistrictModel", "read", "[I", true)
  | 9 => ("OboeDistrictModel", "names", "[J", true)
  | 10 => ("OboeDistrictModel", "reserved", "[J", true)
  | 11 => ("OboeDistrictModel", "token", "I", false)
  | 12 => ("OboeDistrictModel", "at", "I", false)
  | 13 => ("OboeDistrictModel", "span", "I", false)
  | 14 => ("OboeDistrictModel", "number", "I", false)
  | 15 => ("OboeDistrictModel", "fault", "I", false)
  | 16 => ("OboeDistrictModel", "faultAt", "I", false)
  | 17 => ("OboeDistrictModel", "word", "J", false)
  | 18 => ("OboeDistrictModel", "got", "I", false)
  | 19 => ("OboeDistrictModel", "lines", "I", false)
  | 20 => ("OboeDistrictModel", "sets", "[I", true)
  | 21 => ("OboeDistrictModel", "undone", "[I", true)
  | 22 => ("OboeDistrictModel", "before", "[I", true)
  | 23 => ("OboeDistrictModel", "undoMany", "I", false)
  | 24 => ("OboeDistrictModel", "whoSet", "I", false)
  | 25 => ("OboeDistrictModel", "whoBurdens", "I", false)
  | 26 => ("OboeDistrictModel", "hasWho", "Z", false)
  | 27 => ("OboeDistrictModel", "can", "[Z", true)
  | 28 => ("OboeDistrictModel", "familySet", "I", false)
  | 29 => ("OboeDistrictModel", "changedSet", "I", false)
  | 30 => ("OboeDistrictModel", "hasFamily", "Z", false)
  | 31 => ("OboeDistrictModel", "hasChanged", "Z", false)
  | 32 => ("OboeDistrictModel", "firstRow", "[I", true)
  | 33 => ("OboeDistrictModel", "secondRow", "[I", true)
  | 34 => ("OboeDistrictModel", "found", "[I", true)
  | 35 => ("OboeDistrictModel", "alike", "[I", true)
  | 36 => ("OboeDistrictModel", "surelySet", "I", false)
  | 37 => ("OboeDistrictModel", "lookSet", "I", false)
  | 38 => ("OboeDistrictModel", "hasCounts", "Z", false)
  | 39 => ("OboeDistrictModel", "text", "[B", true)
  | 40 => ("OboeDistrictModel", "textMany", "I", false)
  | 41 => ("OboeDistrictModel", "seed", "I", false)
  | 42 => ("OboeDistrictModel", "toldMany", "I", false)
  | 43 => ("OboeDistrictModel", "toldAt", "[I", true)
  | 44 => ("OboeDistrictModel", "hasTold", "Z", false)
  | 45 => ("OboeDistrictModel", "stack", "[I", true)
  | 46 => ("OboeDistrictModel", "codes", "I", false)
  | 47 => ("OboeDistrictModel", "ones", "I", false)
  | 48 => ("OboeDistrictModel", "top", "I", false)
  | 49 => ("OboeDistrictModel", "deep", "I", false)
  | 50 => ("OboeDistrictModel", "isWhole", "Z", false)
  | 51 => ("OboeDistrictModel", "truths", "[Z", true)
  | 52 => ("OboeDistrictModel", "kept", "[I", true)
  | 53 => ("OboeDistrictModel", "namesKept", "[J", true)
  | _ => ("OboeDistrictModel", "areKept", "[Z", true)
def tyX12 : Nat → FieldType := fun k => match k with
  | 0 => .int
  | 1 => .array .byte
  | 2 => .int
  | 3 => .int
  | 4 => .int
  | 5 => .int
  | 6 => .array .int
  | 7 => .array .int
  | 8 => .array .int
  | 9 => .array .long
  | 10 => .array .long
  | 11 => .int
  | 12 => .int
  | 13 => .int
  | 14 => .int
  | 15 => .int
  | 16 => .int
  | 17 => .long
  | 18 => .int
  | 19 => .int
  | 20 => .array .int
  | 21 => .array .int
  | 22 => .array .int
  | 23 => .int
  | 24 => .int
  | 25 => .int
  | 26 => .boolean
  | 27 => .array .boolean
  | 28 => .int
  | 29 => .int
  | 30 => .boolean
  | 31 => .boolean
  | 32 => .array .int
  | 33 => .array .int
  | 34 => .array .int
  | 35 => .array .int
  | 36 => .int
  | 37 => .int
  | 38 => .boolean
  | 39 => .array .byte
  | 40 => .int
  | 41 => .int
  | 42 => .int
  | 43 => .array .int
  | 44 => .boolean
  | 45 => .array .int
  | 46 => .int
  | 47 => .int
  | 48 => .int
  | 49 => .int
  | 50 => .boolean
  | 51 => .array .boolean
  | 52 => .array .int
  | 53 => .array .long
  | _ => .array .boolean
theorem nmX12 : ∀ a, a < 55 → ∀ b, b < 55 → a ≠ b → (TX12 a).2.1 ≠ (TX12 b).2.1 := by decide +kernel
theorem tyX12_ok : ∀ k, k < 55 → parseFieldDescriptor (TX12 k).2.2.1 = some (tyX12 k) := by decide +kernel
abbrev cX12_feed : ByteArray := prog_14_method_3_code
def yX12_feed : MethodName := ⟨RX12, "feed", "(IIIII)I"⟩
abbrev cX12_four : ByteArray := prog_14_method_4_code
def yX12_four : MethodName := ⟨RX12, "four", "(I)V"⟩
abbrev cX12_end : ByteArray := prog_14_method_5_code
def yX12_end : MethodName := ⟨RX12, "end", "(I)Z"⟩
abbrev cX12_taken : ByteArray := prog_14_method_6_code
def yX12_taken : MethodName := ⟨RX12, "taken", "(I)V"⟩
abbrev cX12_isIn : ByteArray := prog_14_method_7_code
def yX12_isIn : MethodName := ⟨RX12, "isIn", "(III)Z"⟩
abbrev cX12_init : ByteArray := prog_14_method_13_code
def yX12_init : MethodName := ⟨RX12, "<init>", "()V"⟩
abbrev cX12_peek : ByteArray := prog_14_method_14_code
def yX12_peek : MethodName := ⟨RX12, "peek", "()I"⟩
abbrev cX12_next : ByteArray := prog_14_method_17_code
def yX12_next : MethodName := ⟨RX12, "next", "()V"⟩
abbrev cX12_bad : ByteArray := prog_14_method_18_code
def yX12_bad : MethodName := ⟨RX12, "bad", "(I)Z"⟩
abbrev cX12_isWord : ByteArray := prog_14_method_19_code
def yX12_isWord : MethodName := ⟨RX12, "isWord", "(J)Z"⟩
abbrev cX12_isSign : ByteArray := prog_14_method_20_code
def yX12_isSign : MethodName := ⟨RX12, "isSign", "(I)Z"⟩
abbrev cX12_district : ByteArray := prog_14_method_34_code
def yX12_district : MethodName := ⟨RX12, "district", "()I"⟩
abbrev cX12_fault : ByteArray := prog_14_method_35_code
def yX12_fault : MethodName := ⟨RX12, "fault", "()I"⟩
abbrev cX12_isPerson : ByteArray := prog_14_method_36_code
def yX12_isPerson : MethodName := ⟨RX12, "isPerson", "(I)Z"⟩
abbrev cX12_isMark : ByteArray := prog_14_method_37_code
def yX12_isMark : MethodName := ⟨RX12, "isMark", "(I)Z"⟩
abbrev cX12_isTram : ByteArray := prog_14_method_39_code
def yX12_isTram : MethodName := ⟨RX12, "isTram", "(I)Z"⟩
abbrev cX12_setMany : ByteArray := prog_14_method_41_code
def yX12_setMany : MethodName := ⟨RX12, "setMany", "()I"⟩
abbrev cX12_isSet : ByteArray := prog_14_method_42_code
def yX12_isSet : MethodName := ⟨RX12, "isSet", "(I)Z"⟩
abbrev cX12_laysSets : ByteArray := prog_14_method_44_code
def yX12_laysSets : MethodName := ⟨RX12, "laysSets", "()V"⟩
abbrev cX12_burden : ByteArray := prog_14_method_52_code
def yX12_burden : MethodName := ⟨RX12, "burden", "(II)I"⟩
abbrev cX12_members : ByteArray := prog_14_method_53_code
def yX12_members : MethodName := ⟨RX12, "members", "(I)I"⟩
abbrev cX12_due : ByteArray := prog_14_method_54_code
def yX12_due : MethodName := ⟨RX12, "due", "(II)I"⟩
abbrev cX12_have : ByteArray := prog_14_method_55_code
def yX12_have : MethodName := ⟨RX12, "have", "(II)I"⟩
abbrev cX12_rest : ByteArray := prog_14_method_56_code
def yX12_rest : MethodName := ⟨RX12, "rest", "(II)I"⟩
abbrev cX12_off : ByteArray := prog_14_method_57_code
def yX12_off : MethodName := ⟨RX12, "off", "(I)I"⟩
abbrev cX12_offAll : ByteArray := prog_14_method_58_code
def yX12_offAll : MethodName := ⟨RX12, "offAll", "()I"⟩
abbrev cX12_now : ByteArray := prog_14_method_59_code
def yX12_now : MethodName := ⟨RX12, "now", "(I)I"⟩
abbrev cX12_year : ByteArray := prog_14_method_64_code
def yX12_year : MethodName := ⟨RX12, "year", "()V"⟩
abbrev cX12_goesOn : ByteArray := prog_14_method_65_code
def yX12_goesOn : MethodName := ⟨RX12, "goesOn", "(I)I"⟩
abbrev cX12_give : ByteArray := prog_14_method_66_code
def yX12_give : MethodName := ⟨RX12, "give", "(II)I"⟩
abbrev cX12_take : ByteArray := prog_14_method_67_code
def yX12_take : MethodName := ⟨RX12, "take", "(II)I"⟩
abbrev cX12_move : ByteArray := prog_14_method_68_code
def yX12_move : MethodName := ⟨RX12, "move", "(II)I"⟩
abbrev cX12_comesOrGoes : ByteArray := prog_14_method_69_code
def yX12_comesOrGoes : MethodName := ⟨RX12, "comesOrGoes", "(IZ)I"⟩
abbrev cX12_leave : ByteArray := prog_14_method_70_code
def yX12_leave : MethodName := ⟨RX12, "leave", "(I)I"⟩
abbrev cX12_come : ByteArray := prog_14_method_71_code
def yX12_come : MethodName := ⟨RX12, "come", "(I)I"⟩
abbrev cX12_years : ByteArray := prog_14_method_72_code
def yX12_years : MethodName := ⟨RX12, "years", "(I)I"⟩
abbrev cX12_keep : ByteArray := prog_14_method_73_code
def yX12_keep : MethodName := ⟨RX12, "keep", "()V"⟩
abbrev cX12_undo : ByteArray := prog_14_method_74_code
def yX12_undo : MethodName := ⟨RX12, "undo", "()I"⟩
abbrev cX12_tries : ByteArray := prog_14_method_75_code
def yX12_tries : MethodName := ⟨RX12, "tries", "()V"⟩
abbrev cX12_back : ByteArray := prog_14_method_76_code
def yX12_back : MethodName := ⟨RX12, "back", "()V"⟩
abbrev cX12_least : ByteArray := prog_14_method_79_code
def yX12_least : MethodName := ⟨RX12, "least", "(I)I"⟩
abbrev cX12_who : ByteArray := prog_14_method_80_code
def yX12_who : MethodName := ⟨RX12, "who", "()I"⟩
abbrev cX12_burdens : ByteArray := prog_14_method_81_code
def yX12_burdens : MethodName := ⟨RX12, "burdens", "()I"⟩
abbrev cX12_family : ByteArray := prog_14_method_83_code
def yX12_family : MethodName := ⟨RX12, "family", "(I)I"⟩
abbrev cX12_familyOf : ByteArray := prog_14_method_84_code
def yX12_familyOf : MethodName := ⟨RX12, "familyOf", "()I"⟩
abbrev cX12_changes : ByteArray := prog_14_method_85_code
def yX12_changes : MethodName := ⟨RX12, "changes", "(I)I"⟩
abbrev cX12_changed : ByteArray := prog_14_method_86_code
def yX12_changed : MethodName := ⟨RX12, "changed", "()I"⟩
abbrev cX12_house : ByteArray := prog_14_method_88_code
def yX12_house : MethodName := ⟨RX12, "house", "(I)I"⟩
abbrev cX12_both : ByteArray := prog_14_method_90_code
def yX12_both : MethodName := ⟨RX12, "both", "(II)I"⟩
abbrev cX12_spared : ByteArray := prog_14_method_91_code
def yX12_spared : MethodName := ⟨RX12, "spared", "(III)I"⟩
abbrev cX12_counts : ByteArray := prog_14_method_94_code
def yX12_counts : MethodName := ⟨RX12, "counts", "()I"⟩
abbrev cX12_surely : ByteArray := prog_14_method_95_code
def yX12_surely : MethodName := ⟨RX12, "surely", "()I"⟩
abbrev cX12_look : ByteArray := prog_14_method_96_code
def yX12_look : MethodName := ⟨RX12, "look", "()I"⟩
abbrev cX12_cut : ByteArray := prog_14_method_97_code
def yX12_cut : MethodName := ⟨RX12, "cut", "(II)I"⟩
abbrev cX12_settles : ByteArray := prog_14_method_98_code
def yX12_settles : MethodName := ⟨RX12, "settles", "()I"⟩
abbrev cX12_plate : ByteArray := prog_14_method_102_code
def yX12_plate : MethodName := ⟨RX12, "plate", "(I)I"⟩
abbrev cX12_byteAt : ByteArray := prog_14_method_103_code
def yX12_byteAt : MethodName := ⟨RX12, "byteAt", "(I)I"⟩
abbrev cX12_drawn : ByteArray := prog_14_method_107_code
def yX12_drawn : MethodName := ⟨RX12, "drawn", "(II)I"⟩
abbrev cX12_odds : ByteArray := prog_14_method_108_code
def yX12_odds : MethodName := ⟨RX12, "odds", "(III)I"⟩
abbrev cX12_book : ByteArray := prog_14_method_111_code
def yX12_book : MethodName := ⟨RX12, "book", "(I)I"⟩
abbrev cX12_told : ByteArray := prog_14_method_112_code
def yX12_told : MethodName := ⟨RX12, "told", "(I)I"⟩
abbrev cX12_leafOf : ByteArray := prog_14_method_116_code
def yX12_leafOf : MethodName := ⟨RX12, "leafOf", "()I"⟩
abbrev cX12_operand : ByteArray := prog_14_method_117_code
def yX12_operand : MethodName := ⟨RX12, "operand", "()Z"⟩
abbrev cX12_sentence : ByteArray := prog_14_method_119_code
def yX12_sentence : MethodName := ⟨RX12, "sentence", "()I"⟩
abbrev cX12_said : ByteArray := prog_14_method_122_code
def yX12_said : MethodName := ⟨RX12, "said", "(I)I"⟩
abbrev cX12_image : ByteArray := prog_14_method_123_code
def yX12_image : MethodName := ⟨RX12, "image", "(I)Z"⟩
abbrev cX12_restore : ByteArray := prog_14_method_124_code
def yX12_restore : MethodName := ⟨RX12, "restore", "(I)Z"⟩
abbrev cX12_count : ByteArray := prog_14_method_125_code
def yX12_count : MethodName := ⟨RX12, "count", "(I)I"⟩
def RJ6 : String := "java/lang/Integer"
def RJ9 : String := "java/lang/Math"
def RJ0 : String := "java/lang/String"
abbrev cJ0_length_8abf5 : ByteArray := prog_22_method_54_code
def yJ0_length_8abf5 : MethodName := ⟨RJ0, "length", "()I"⟩
abbrev cJ0_charAt_5068e : ByteArray := prog_22_method_56_code
def yJ0_charAt_5068e : MethodName := ⟨RJ0, "charAt", "(I)C"⟩
abbrev cJ0_coder_7d493 : ByteArray := prog_22_method_152_code
def yJ0_coder_7d493 : MethodName := ⟨RJ0, "coder", "()B"⟩
abbrev cJ0_isLatin1_aae02 : ByteArray := prog_22_method_154_code
def yJ0_isLatin1_aae02 : MethodName := ⟨RJ0, "isLatin1", "()Z"⟩
abbrev cJ0_checkIndex_df160 : ByteArray := prog_22_method_155_code
def yJ0_checkIndex_df160 : MethodName := ⟨RJ0, "checkIndex", "(II)V"⟩
def RJ1 : String := "java/lang/StringLatin1"
abbrev cJ1_charAt_3b067 : ByteArray := prog_23_method_2_code
def yJ1_charAt_3b067 : MethodName := ⟨RJ1, "charAt", "([BI)C"⟩
def RJ2 : String := "java/lang/StringUTF16"
def RJ10 : String := "java/lang/System"
def RJ7 : String := "java/util/Arrays"
abbrev cJ7_fill_53178 : ByteArray := prog_29_method_103_code
def yJ7_fill_53178 : MethodName := ⟨RJ7, "fill", "([II)V"⟩
def RJ3 : String := "jdk/internal/util/Preconditions"
abbrev cJ3_checkIndex_8e157 : ByteArray := prog_31_method_11_code
def yJ3_checkIndex_8e157 : MethodName := ⟨RJ3, "checkIndex", "(IILjava/util/function/BiFunction;)I"⟩
def RL : String := "OboeDistrictLaw"
abbrev cL_person : ByteArray := method_3_code
def yL_person : MethodName := ⟨RL, "person", "(LOboeDistrict;II[J)I"⟩
abbrev cL_law : ByteArray := code
def yL_law : MethodName := ⟨RL, "law", "([I)Z"⟩
abbrev vwCl : List vw_C := [(RX0, TX0, 9), (RX1, TX1, 3), (RX2, TX2, 11), (RX3, TX3, 2), (RX4, TX4, 2), (RX5, TX5, 10), (RX6, TX6, 5), (RX7, TX7, 4), (RX8, TX8, 5), (RX9, TX9, 15), (RX10, TX10, 8), (RX11, TX11, 15), (RX12, TX12, 55)]
end
section
/-! A run of bytecode over what is known of numbers (an interval) and of cells (by their places), as a function: the machine's own steps are held to it in the parts behind. -/
/-- a value: a number between two; or (0, _) null, (1, _) a long, (2, k) the cell at place k, (3, j) the text j, (4, j) its bytes, (5, _) the script, (6, _) a cell or null, (7, k) the number k that is told from outside, (9, _) not set -/
abbrev rvV : Type := (Int × Int) ⊕ (Nat × Nat)
/-- a cell: an object (its class, its fields) or a row (its kind, length, what all hold, what some hold instead) -/
abbrev rvC : Type := (Nat × List rvV) ⊕ (Nat × Nat × rvV × List (Nat × rvV))
abbrev rvH : Type := List rvC
/-- pc, locals, stack, cells, how many cells and slots were made -/
abbrev rvS : Type := Nat × List rvV × List rvV × rvH × Nat × Nat
/-- an instruction, its length, what it links to (three numbers), the place of its word -/
abbrev rvE : Type := Instr × Nat × Nat × Nat × Nat × Nat
/-- a method: locals, then frames, cells, slots, locals that it may take, the class of its receiver -/
abbrev rvM : Type := Nat × Nat × Nat × Nat × Nat × Nat
abbrev rvO : Type := Option (Option rvV × rvH)
def rvK (n : Int) : rvV := .inl (n, n)
def rvTop : rvV := .inl (-2147483648, 2147483647)
def rvU : rvV := .inr (9, 0)
def rvL : rvV := .inr (1, 0)
def rvIsL (v : rvV) : Bool := match v with
  | .inr (1, _) => true
  | _ => false
/-- a reference or null, as aload takes it -/
def rvIsA (v : rvV) : Bool := match v with
  | .inr (1, _) => false
  | .inr (7, _) => false
  | .inr (9, _) => false
  | .inr _ => true
  | .inl _ => false
def rvOne (a : Int × Int) : Bool := decide (a.1 = a.2)
def rvBin (f : Int32 → Int32 → Int32) (a b : Int × Int) : rvV := bif rvOne a && rvOne b then rvK (f (Int32.ofInt a.1) (Int32.ofInt b.1)).toInt else rvTop
def rvLt (a b : Int × Int) : Option Bool := bif decide (a.2 < b.1) then some true else bif decide (b.2 ≤ a.1) then some false else none
def rvEq (a b : Int × Int) : Option Bool := bif rvOne a && rvOne b then some (decide (a.1 = b.1)) else bif decide (a.2 < b.1) || decide (b.2 < a.1) then some false else none
def rvNo (o : Option Bool) : Option Bool := match o with
  | some b => some (!b)
  | none => none
def rvCmp (c : ClassFile.Cond) (a b : Int × Int) : Option Bool := match c with
  | .eq => rvEq a b
  | .ne => rvNo (rvEq a b)
  | .lt => rvLt a b
  | .ge => rvNo (rvLt a b)
  | .gt => rvLt b a
  | .le => rvNo (rvLt b a)
def rvJ (pc : Nat) (off : Int) : Option Nat := bif decide (0 ≤ (pc : Int) + off) then some ((pc : Int) + off).toNat else none
def rvIdx (a : Int × Int) (n : Nat) : Option Nat := bif rvOne a && (decide (0 ≤ a.1) && decide (a.1 < (n : Int))) then some a.1.toNat else none
def rvLook (d : rvV) (ov : List (Nat × rvV)) (j : Nat) : rvV := match ov with
  | [] => d
  | (k, v) :: t => bif Nat.beq k j then v else rvLook d t j
def rvUp (ov : List (Nat × rvV)) (j : Nat) (v : rvV) : List (Nat × rvV) := match ov with
  | [] => [(j, v)]
  | (k, w) :: t => bif Nat.beq k j then (j, v) :: t else (k, w) :: rvUp t j v
def rvIn (a : Int × Int) (lo hi : Int) : Bool := decide (lo ≤ a.1) && decide (a.2 ≤ hi)
def rvFit (ty : FieldType) (v : rvV) : Bool := match ty, v with
  | .int, .inl _ => true
  | .boolean, .inl a => rvIn a 0 1
  | .byte, .inl a => rvIn a (-128) 127
  | .char, .inl a => rvIn a 0 65535
  | .long, .inr (1, _) => true
  | .object _, .inr (0, _) => true
  | .object _, .inr (2, _) => true
  | .array _, .inr (0, _) => true
  | .array _, .inr (2, _) => true
  | _, _ => false
def rvDef (ty : FieldType) : rvV := match ty with
  | .int => rvK 0
  | .boolean => rvK 0
  | .long => rvL
  | _ => .inr (0, 0)
/-- a local is set; the first half of a long that it cuts is not set any more -/
def rvSet (al : List rvV) (i : Nat) (v : rvV) : List rvV := match i with
  | 0 => al.set 0 v
  | k + 1 => match al[k]? with
    | some w => bif rvIsL w then (al.set k rvU).set (k + 1) v else al.set (k + 1) v
    | none => al
def rvWd (st : List rvV) : Nat := match st with
  | [] => 0
  | v :: t => (bif rvIsL v then 2 else 1) + rvWd t
def rvPop (n : Nat) (st acc : List rvV) : Option (List rvV × List rvV) := match n, st with
  | 0, st => some (acc, st)
  | _ + 1, [] => none
  | k + 1, v :: t => rvPop k t (v :: acc)
def rvEnt (as : List rvV) : List rvV := match as with
  | [] => []
  | v :: t => bif rvIsL v then v :: rvU :: rvEnt t else v :: rvEnt t
def rvLen (st : List rvV) : Nat := match st with
  | [] => 0
  | _ :: t => rvLen t + 1
/-- one instruction that calls nothing -/
def rvStep (tys : Nat → Nat → FieldType) (nf : Nat → Nat) (txt : List Int) (sc : List (Int × Int)) (BC BS mL : Nat) (i : Instr) (a1 a2 a3 : Nat) (pc : Nat) (al st : List rvV) (aw : rvH) (kc ks : Nat) : Option rvS :=
  match i with
  | .iconst n => bif rvIn (n, n) (-2147483648) 2147483647 then some (pc + 1, al, rvK n :: st, aw, kc, ks) else none
  | .bipush n => bif rvIn (n, n) (-128) 127 then some (pc + 2, al, rvK n :: st, aw, kc, ks) else none
  | .sipush n => bif rvIn (n, n) (-32768) 32767 then some (pc + 3, al, rvK n :: st, aw, kc, ks) else none
  | .lconst _ => some (pc + 1, al, rvL :: st, aw, kc, ks)
  | .ldc2_w _ => some (pc + 3, al, rvL :: st, aw, kc, ks)
  | .ldc _ => some (pc + 2, al, .inr (3, 0) :: st, aw, kc, ks)
  | .aconst_null => some (pc + 1, al, .inr (0, 0) :: st, aw, kc, ks)
  | .iload k => match al[k]? with
    | some (.inl a) => some (pc + 2, al, .inl a :: st, aw, kc, ks)
    | _ => none
  | .iload_n k => match al[k.val]? with
    | some (.inl a) => some (pc + 1, al, .inl a :: st, aw, kc, ks)
    | _ => none
  | .lload k => match al[k]? with
    | some (.inr (1, _)) => some (pc + 2, al, rvL :: st, aw, kc, ks)
    | _ => none
  | .lload_n k => match al[k.val]? with
    | some (.inr (1, _)) => some (pc + 1, al, rvL :: st, aw, kc, ks)
    | _ => none
  | .aload k => match al[k]? with
    | some v => bif rvIsA v then some (pc + 2, al, v :: st, aw, kc, ks) else none
    | _ => none
  | .aload_n k => match al[k.val]? with
    | some v => bif rvIsA v then some (pc + 1, al, v :: st, aw, kc, ks) else none
    | _ => none
  | .istore k => match st with
    | .inl a :: st => bif Nat.blt k mL then some (pc + 2, rvSet al k (.inl a), st, aw, kc, ks) else none
    | _ => none
  | .istore_n k => match st with
    | .inl a :: st => bif Nat.blt k.val mL then some (pc + 1, rvSet al k.val (.inl a), st, aw, kc, ks) else none
    | _ => none
  | .lstore k => match st with
    | .inr (1, _) :: st => bif Nat.blt (k + 1) mL then some (pc + 2, (rvSet al k rvL).set (k + 1) rvU, st, aw, kc, ks) else none
    | _ => none
  | .lstore_n k => match st with
    | .inr (1, _) :: st => bif Nat.blt (k.val + 1) mL then some (pc + 1, (rvSet al k.val rvL).set (k.val + 1) rvU, st, aw, kc, ks) else none
    | _ => none
  | .astore k => match st with
    | v :: st => bif rvIsA v && Nat.blt k mL then some (pc + 2, rvSet al k v, st, aw, kc, ks) else none
    | _ => none
  | .astore_n k => match st with
    | v :: st => bif rvIsA v && Nat.blt k.val mL then some (pc + 1, rvSet al k.val v, st, aw, kc, ks) else none
    | _ => none
  | .iinc k n => match al[k]? with
    | some (.inl a) => bif Nat.blt k mL && rvIn (n, n) (-2147483648) 2147483647 then some (pc + 3, rvSet al k (rvBin (· + ·) a (n, n)), st, aw, kc, ks) else none
    | _ => none
  | .iadd => match st with
    | .inl b :: .inl a :: st => some (pc + 1, al, rvBin (· + ·) a b :: st, aw, kc, ks)
    | _ => none
  | .isub => match st with
    | .inl b :: .inl a :: st => some (pc + 1, al, rvBin (· - ·) a b :: st, aw, kc, ks)
    | _ => none
  | .imul => match st with
    | .inl b :: .inl a :: st => some (pc + 1, al, rvBin (· * ·) a b :: st, aw, kc, ks)
    | _ => none
  | .iand => match st with
    | .inl b :: .inl a :: st => some (pc + 1, al, rvBin (· &&& ·) a b :: st, aw, kc, ks)
    | _ => none
  | .ior => match st with
    | .inl b :: .inl a :: st => some (pc + 1, al, rvBin (· ||| ·) a b :: st, aw, kc, ks)
    | _ => none
  | .ixor => match st with
    | .inl b :: .inl a :: st => some (pc + 1, al, rvBin (· ^^^ ·) a b :: st, aw, kc, ks)
    | _ => none
  | .ishl => match st with
    | .inl b :: .inl a :: st => some (pc + 1, al, rvBin (fun x y => x <<< (y &&& 31)) a b :: st, aw, kc, ks)
    | _ => none
  | .ishr => match st with
    | .inl b :: .inl a :: st => some (pc + 1, al, rvBin (fun x y => x >>> (y &&& 31)) a b :: st, aw, kc, ks)
    | _ => none
  | .iushr => match st with
    | .inl b :: .inl a :: st => some (pc + 1, al, rvBin (fun x y => (x.toUInt32 >>> (y.toUInt32 &&& Int32.toUInt32 31)).toInt32) a b :: st, aw, kc, ks)
    | _ => none
  | .irem => match st with
    | .inl b :: .inl a :: st => bif rvOne b && !(decide (b.1 = 0)) then some (pc + 1, al, rvBin (fun x y => x - x / y * y) a b :: st, aw, kc, ks) else none
    | _ => none
  | .i2b => match st with
    | .inl a :: st => some (pc + 1, al, (bif rvOne a then rvK (Int32.ofInt a.1).toInt8.toInt32.toInt else .inl (-128, 127)) :: st, aw, kc, ks)
    | _ => none
  | .i2c => match st with
    | .inl a :: st => some (pc + 1, al, (bif rvOne a then rvK ((Int32.ofInt a.1).toUInt32 % 65536).toInt32.toInt else .inl (0, 65535)) :: st, aw, kc, ks)
    | _ => none
  | .i2l => match st with
    | .inl _ :: st => some (pc + 1, al, rvL :: st, aw, kc, ks)
    | _ => none
  | .lor => match st with
    | .inr (1, _) :: .inr (1, _) :: st => some (pc + 1, al, rvL :: st, aw, kc, ks)
    | _ => none
  | .lshl => match st with
    | .inl _ :: .inr (1, _) :: st => some (pc + 1, al, rvL :: st, aw, kc, ks)
    | _ => none
  | .dup => match st with
    | v :: st => bif rvIsL v then none else some (pc + 1, al, v :: v :: st, aw, kc, ks)
    | _ => none
  | .dup_x1 => match st with
    | v :: w :: st => bif rvIsL v || rvIsL w then none else some (pc + 1, al, v :: w :: v :: st, aw, kc, ks)
    | _ => none
  | .dup2 => match st with
    | v :: w :: st => bif rvIsL v || rvIsL w then none else some (pc + 1, al, v :: w :: v :: w :: st, aw, kc, ks)
    | _ => none
  | .pop => match st with
    | v :: st => bif rvIsL v then none else some (pc + 1, al, st, aw, kc, ks)
    | _ => none
  | .if_icmp c off => match st with
    | .inl b :: .inl a :: st => match rvCmp c a b, rvJ pc off with
      | some true, some t => some (t, al, st, aw, kc, ks)
      | some false, some _ => some (pc + 3, al, st, aw, kc, ks)
      | _, _ => none
    | _ => none
  | .ifCond c off => match st with
    | .inl a :: st => match rvCmp c a (0, 0), rvJ pc off with
      | some true, some t => some (t, al, st, aw, kc, ks)
      | some false, some _ => some (pc + 3, al, st, aw, kc, ks)
      | _, _ => none
    | _ => none
  | .ifnonnull off => match st with
    | .inr (0, _) :: st => some (pc + 3, al, st, aw, kc, ks)
    | .inr (2, _) :: st => match rvJ pc off with
      | some t => some (t, al, st, aw, kc, ks)
      | none => none
    | _ => none
  | .ifnull off => match st with
    | .inr (2, _) :: st => some (pc + 3, al, st, aw, kc, ks)
    | .inr (0, _) :: st => match rvJ pc off with
      | some t => some (t, al, st, aw, kc, ks)
      | none => none
    | _ => none
  | .goto off => match rvJ pc off with
    | some t => some (t, al, st, aw, kc, ks)
    | none => none
  | .tableswitch dflt lo hi offs => match st with
    | .inl a :: st => bif decide (a.2 < lo) || decide (hi < a.1) then (match rvJ pc dflt with
        | some t => some (t, al, st, aw, kc, ks)
        | none => none)
      else bif rvOne a && (decide (lo ≤ a.1) && decide (a.1 ≤ hi)) then (match offs[(a.1 - lo).toNat]? with
        | some off => (match rvJ pc off with
          | some t => some (t, al, st, aw, kc, ks)
          | none => none)
        | none => none)
      else none
    | _ => none
  | .getfield _ => match st with
    | .inr (2, k) :: st => match aw[k]? with
      | some (.inl (ci, fs)) => bif Nat.beq ci a1 then (match fs[a2]? with
        | some w => some (pc + 3, al, w :: st, aw, kc, ks)
        | none => none) else none
      | _ => none
    | .inr (3, j) :: st => bif Nat.beq a1 100 && Nat.beq j 0 then some (pc + 3, al, (bif Nat.beq a2 0 then .inr (4, 0) else rvK 0) :: st, aw, kc, ks) else none
    | _ => none
  | .putfield _ => match st with
    | v :: .inr (2, k) :: st => match aw[k]? with
      | some (.inl (ci, fs)) => bif Nat.beq ci a1 && (rvFit (tys ci a2) v && Nat.blt a2 (rvLen fs)) then some (pc + 3, al, st, aw.set k (.inl (ci, fs.set a2 v)), kc, ks) else none
      | _ => none
    | _ => none
  | .getstatic _ => some (pc + 3, al, (bif Nat.beq a1 0 then rvK 1 else .inr (6, 0)) :: st, aw, kc, ks)
  | .arraylength => match st with
    | .inr (2, k) :: st => match aw[k]? with
      | some (.inr (_, n, _, _)) => bif Nat.blt n 2147483648 then some (pc + 1, al, rvK (n : Int) :: st, aw, kc, ks) else none
      | _ => none
    | .inr (4, j) :: st => bif Nat.beq j 0 then some (pc + 1, al, rvK (txt.length : Int) :: st, aw, kc, ks) else none
    | _ => none
  | .iaload => match st with
    | .inl x :: .inr (2, k) :: st => match aw[k]? with
      | some (.inr (0, n, d, ov)) => match rvIdx x n with
        | some j => some (pc + 1, al, rvLook d ov j :: st, aw, kc, ks)
        | none => none
      | _ => none
    | .inl x :: .inr (5, z) :: st => match rvIdx x sc.length with
      | some j => match sc[j]? with
        | some a => bif Nat.beq z 0 then some (pc + 1, al, .inl a :: st, aw, kc, ks) else none
        | none => none
      | none => none
    | _ => none
  | .baload => match st with
    | .inl x :: .inr (2, k) :: st => match aw[k]? with
      | some (.inr (1, n, d, ov)) => match rvIdx x n with
        | some j => some (pc + 1, al, rvLook d ov j :: st, aw, kc, ks)
        | none => none
      | some (.inr (2, n, d, ov)) => match rvIdx x n with
        | some j => some (pc + 1, al, rvLook d ov j :: st, aw, kc, ks)
        | none => none
      | _ => none
    | .inl x :: .inr (4, z) :: st => match rvIdx x txt.length with
      | some j => match txt[j]? with
        | some b => bif Nat.beq z 0 then some (pc + 1, al, rvK b :: st, aw, kc, ks) else none
        | none => none
      | none => none
    | _ => none
  | .laload => match st with
    | .inl x :: .inr (2, k) :: st => match aw[k]? with
      | some (.inr (3, n, _, _)) => match rvIdx x n with
        | some _ => some (pc + 1, al, rvL :: st, aw, kc, ks)
        | none => none
      | _ => none
    | _ => none
  | .aaload => match st with
    | .inl x :: .inr (2, k) :: st => match aw[k]? with
      | some (.inr (4, n, d, ov)) => match rvIdx x n with
        | some j => some (pc + 1, al, rvLook d ov j :: st, aw, kc, ks)
        | none => none
      | some (.inr (5, n, d, ov)) => match rvIdx x n with
        | some j => some (pc + 1, al, rvLook d ov j :: st, aw, kc, ks)
        | none => none
      | _ => none
    | _ => none
  | .iastore => match st with
    | .inl v :: .inl x :: .inr (2, k) :: st => match aw[k]? with
      | some (.inr (0, n, d, ov)) => match rvIdx x n with
        | some j => some (pc + 1, al, st, aw.set k (.inr (0, n, d, rvUp ov j (.inl v))), kc, ks)
        | none => none
      | _ => none
    | _ => none
  | .bastore => match st with
    | .inl v :: .inl x :: .inr (2, k) :: st => match aw[k]? with
      | some (.inr (1, n, d, ov)) => match rvIdx x n with
        | some j => bif rvIn v (-128) 127 then some (pc + 1, al, st, aw.set k (.inr (1, n, d, rvUp ov j (.inl v))), kc, ks) else none
        | none => none
      | some (.inr (2, n, d, ov)) => match rvIdx x n with
        | some j => bif rvIn v 0 1 then some (pc + 1, al, st, aw.set k (.inr (2, n, d, rvUp ov j (.inl v))), kc, ks) else none
        | none => none
      | _ => none
    | _ => none
  | .lastore => match st with
    | .inr (1, _) :: .inl x :: .inr (2, k) :: st => match aw[k]? with
      | some (.inr (3, n, _, _)) => match rvIdx x n with
        | some _ => some (pc + 1, al, st, aw, kc, ks)
        | none => none
      | _ => none
    | _ => none
  | .aastore => match st with
    | v :: .inl x :: .inr (2, k) :: st => match aw[k]? with
      | some (.inr (q, n, d, ov)) => match rvIdx x n with
        | some j => match v with
          | .inr (0, z) => bif Nat.beq q 4 || Nat.beq q 5 then some (pc + 1, al, st, aw.set k (.inr (q, n, d, rvUp ov j (.inr (0, z)))), kc, ks) else none
          | .inr (2, z) => match aw[z]? with
            | some (.inl (ci, _)) => bif (Nat.beq q 4 && Nat.beq ci 2) || (Nat.beq q 5 && Nat.beq ci 6) then some (pc + 1, al, st, aw.set k (.inr (q, n, d, rvUp ov j (.inr (2, z)))), kc, ks) else none
            | _ => none
          | _ => none
        | none => none
      | _ => none
    | _ => none
  | .new _ => bif Nat.ble (kc + 1) BC && Nat.ble (ks + nf a1) BS then some (pc + 3, al, .inr (2, aw.length) :: st, aw ++ [.inl (a1, (List.range (nf a1)).map (fun k => rvDef (tys a1 k)))], kc + 1, ks + nf a1) else none
  | .newarray _ => match st with
    | .inl x :: st => bif rvOne x && (decide (0 ≤ x.1) && (decide (x.1 ≤ 100000) && (Nat.ble (kc + 1) BC && Nat.ble (ks + x.1.toNat) BS))) then some (pc + 2, al, .inr (2, aw.length) :: st, aw ++ [.inr (a1, x.1.toNat, (bif Nat.beq a1 3 then rvL else rvK 0), [])], kc + 1, ks + x.1.toNat) else none
    | _ => none
  | .anewarray _ => match st with
    | .inl x :: st => bif rvOne x && (decide (0 ≤ x.1) && (decide (x.1 ≤ 100000) && (Nat.ble (kc + 1) BC && Nat.ble (ks + x.1.toNat) BS))) then some (pc + 3, al, .inr (2, aw.length) :: st, aw ++ [.inr (a1, x.1.toNat, .inr (0, 0), [])], kc + 1, ks + x.1.toNat) else none
    | _ => none
  | _ => none
/-- a call: the callee's answer is put on the stack, its cells are the cells now -/
def rvInv (call : Nat → List rvV → rvH → rvO) (info : Nat → rvM) (BF BC BS BL : Nat) (j n : Nat) (virt : Bool) (pc : Nat) (al st : List rvV) (aw : rvH) (kc ks : Nat) : Option rvS :=
  match rvPop n st [] with
  | some (as, rest) => match info j with
    | (mL, fr, ce, sl, lo, cls) =>
      bif Nat.ble (fr + 1) BF && (Nat.ble (8 + (mL + 11) + lo) BL && (Nat.ble (kc + ce) BC && Nat.ble (ks + sl) BS)) then
        (bif virt then (match rest with
          | .inr (2, k) :: rest => (match aw[k]? with
            | some (.inl (ci, _)) => bif Nat.beq ci cls && Nat.ble (rvWd rest) 8 then (match call j (.inr (2, k) :: as) aw with
              | some (some v, aw') => some (pc + 3, al, v :: rest, aw', kc + ce, ks + sl)
              | some (none, aw') => some (pc + 3, al, rest, aw', kc + ce, ks + sl)
              | none => none) else none
            | _ => none)
          | .inr (3, k) :: rest => bif (Nat.beq cls 100 && Nat.beq k 0) && Nat.ble (rvWd rest) 8 then (match call j (.inr (3, k) :: as) aw with
              | some (some v, aw') => some (pc + 3, al, v :: rest, aw', kc + ce, ks + sl)
              | some (none, aw') => some (pc + 3, al, rest, aw', kc + ce, ks + sl)
              | none => none) else none
          | _ => none)
        else bif Nat.ble (rvWd rest) 8 then (match call j as aw with
          | some (some v, aw') => some (pc + 3, al, v :: rest, aw', kc + ce, ks + sl)
          | some (none, aw') => some (pc + 3, al, rest, aw', kc + ce, ks + sl)
          | none => none) else none)
      else none
  | none => none
/-- System.arraycopy of a whole row of ints to another of its length -/
def rvCopy (BF BL : Nat) (pc : Nat) (al st : List rvV) (aw : rvH) (kc ks : Nat) : Option rvS :=
  match st with
  | .inl n :: .inl dp :: .inr (2, x) :: .inl sp :: .inr (2, y) :: rest => match aw[y]?, aw[x]? with
    | some (.inr (0, m, d, ov)), some (.inr (0, m', _, _)) => bif rvOne n && (decide (n.1 = (m : Int)) && (Nat.beq m m' && (rvOne dp && (decide (dp.1 = 0) && (rvOne sp && (decide (sp.1 = 0) && (Nat.ble 1 BF && (Nat.ble (rvWd rest + 60) BL && Nat.blt m 2147483648)))))))) then some (pc + 3, al, rest, aw.set x (.inr (0, m', d, ov)), kc, ks) else none
    | _, _ => none
  | _ => none
/-- what comes next: nothing that is known, a stop, or a state -/
def rvNext (tys : Nat → Nat → FieldType) (nf : Nat → Nat) (txt : List Int) (sc : List (Int × Int)) (call : Nat → List rvV → rvH → rvO) (info : Nat → rvM) (tab : Nat → Option rvE) (stop BF BC BS BL mL : Nat) (pc : Nat) (al st : List rvV) (aw : rvH) (kc ks : Nat) : Option (Option rvS) :=
  bif Nat.beq pc stop then some none else
  match tab pc with
  | none => none
  | some (i, _, a1, a2, a3, _) => match i with
    | .ireturn => some none
    | .lreturn => some none
    | .areturn => some none
    | .return_ => some none
    | .invokevirtual _ => (match rvInv call info BF BC BS BL a1 a2 true pc al st aw kc ks with
      | some s => some (some s)
      | none => none)
    | .invokespecial _ => bif Nat.beq a3 9 then (match st with
        | .inr (2, _) :: rest => bif Nat.ble 1 BF && Nat.ble (rvWd rest + 12) BL then some (some (pc + 3, al, rest, aw, kc, ks)) else none
        | _ => none)
      else (match rvInv call info BF BC BS BL a1 a2 true pc al st aw kc ks with
      | some s => some (some s)
      | none => none)
    | .invokestatic _ => bif Nat.beq a3 8 then (match rvCopy BF BL pc al st aw kc ks with
      | some s => some (some s)
      | none => none)
      else (match rvInv call info BF BC BS BL a1 a2 false pc al st aw kc ks with
      | some s => some (some s)
      | none => none)
    | i => (match rvStep tys nf txt sc BC BS mL i a1 a2 a3 pc al st aw kc ks with
      | some s => some (some s)
      | none => none)
/-- at most n steps, to a stop -/
noncomputable def rvRun (tys : Nat → Nat → FieldType) (nf : Nat → Nat) (txt : List Int) (sc : List (Int × Int)) (call : Nat → List rvV → rvH → rvO) (info : Nat → rvM) (tab : Nat → Option rvE) (stop BF BC BS BL mL : Nat) (n : Nat) : Nat → List rvV → List rvV → rvH → Nat → Nat → Option rvS :=
  Nat.rec (motive := fun _ => Nat → List rvV → List rvV → rvH → Nat → Nat → Option rvS) (fun pc al st aw kc ks => some (pc, al, st, aw, kc, ks))
    (fun _ ih pc al st aw kc ks => match rvNext tys nf txt sc call info tab stop BF BC BS BL mL pc al st aw kc ks with
      | none => none
      | some none => some (pc, al, st, aw, kc, ks)
      | some (some (pc, al, st, aw, kc, ks)) => ih pc al st aw kc ks) n
/-- behind a run: the answer, if it stands at a return -/
def rvEnd (tab : Nat → Option rvE) (ret : Option FieldType) (ce sl : Nat) (o : Option rvS) : rvO := match o with
  | some (pc, _, st, aw, kc, ks) => bif Nat.ble kc ce && Nat.ble ks sl then (match tab pc with
    | some (.ireturn, _) => (match st, ret with
      | [.inl a], some ty => bif rvFit ty (.inl a) then some (some (.inl a), aw) else none
      | _, _ => none)
    | some (.lreturn, _) => (match st, ret with
      | [.inr (1, z)], some .long => some (some (.inr (1, z)), aw)
      | _, _ => none)
    | some (.return_, _) => (match st, ret with
      | [], none => some (none, aw)
      | _, _ => none)
    | _ => none) else none
  | none => none
/-- a method's answer, calls at most d deep, each of at most n steps; what orc knows is taken from there -/
noncomputable def rvExec (tys : Nat → Nat → FieldType) (nf : Nat → Nat) (txt : List Int) (orc : Nat → List rvV → rvH → rvO) (info : Nat → rvM) (rets : Nat → Option FieldType) (tabs : Nat → Nat → Option rvE) (n : Nat) (d : Nat) : Nat → List rvV → rvH → rvO :=
  Nat.rec (motive := fun _ => Nat → List rvV → rvH → rvO) orc
    (fun _ ih j as aw => match orc j as aw with
      | some r => some r
      | none => match info j with
        | (mL, fr, ce, sl, lo, _) => bif Nat.ble (rvLen (rvEnt as)) mL then rvEnd (tabs j) (rets j) ce sl (rvRun tys nf txt [] ih info (tabs j) 99999999 fr ce sl lo mL n 0 (rvEnt as ++ List.replicate (mL - rvLen (rvEnt as)) rvU) [] aw 0 0) else none) d
end
section
/-! What the values, cells and locals of a run say of the machine's. -/
theorem rv_beq {a b : Nat} (h : Nat.beq a b = true) : a = b := Nat.eq_of_beq_eq_true h
theorem rv_ble {a b : Nat} (h : Nat.ble a b = true) : a ≤ b := Nat.le_of_ble_eq_true h
theorem rv_blt {a b : Nat} (h : Nat.blt a b = true) : a < b := Nat.le_of_ble_eq_true h
theorem rv_bif {α : Type} {c : Bool} {a r : α} (h : (bif c then some a else none) = some r) : c = true ∧ a = r := by
  cases c with
  | true => exact ⟨rfl, Option.some.inj h⟩
  | false => cases h
theorem rv_nbif {α : Type} {c : Bool} {a r : α} (h : (bif c then none else some a) = some r) : c = false ∧ a = r := by
  cases c with
  | false => exact ⟨rfl, Option.some.inj h⟩
  | true => cases h
theorem rv_and {a b : Bool} (h : (a && b) = true) : a = true ∧ b = true := by
  cases a <;> cases b <;> first | exact ⟨rfl, rfl⟩ | cases h
theorem rv_or {a b : Bool} (h : (a || b) = false) : a = false ∧ b = false := by
  cases a <;> cases b <;> first | exact ⟨rfl, rfl⟩ | cases h
theorem rv_or' {a b : Bool} (h : (a || b) = true) : a = true ∨ b = true := by
  cases a <;> cases b <;> first | exact Or.inl rfl | exact Or.inr rfl | cases h
def rvR (ad : List Nat) (ex : Nat → Nat → Nat) (v : rvV) (x : Value) : Prop := match v with
  | .inl a => ∃ n : Int32, x = .int n ∧ a.1 ≤ n.toInt ∧ n.toInt ≤ a.2
  | .inr (0, _) => x = .null
  | .inr (1, _) => ∃ n : Int64, x = .long n
  | .inr (2, k) => ∃ q : Nat, ad[k]? = some q ∧ x = .ref q
  | .inr (6, _) => x = .null ∨ ∃ q : Nat, x = .ref q
  | .inr (7, k) => x = .int (Int32.ofNat (ex 7 k))
  | .inr (9, _) => False
  | .inr (t, k) => x = .ref (ex t k)
def rvRs (ad : List Nat) (ex : Nat → Nat → Nat) : List rvV → List Value → Prop
  | [], [] => True
  | v :: vs, x :: xs => rvR ad ex v x ∧ rvRs ad ex vs xs
  | _, _ => False
theorem rvR_mono {ad : List Nat} {ex : Nat → Nat → Nat} {v : rvV} {x : Value} (t : List Nat) (h : rvR ad ex v x) : rvR (ad ++ t) ex v x := by
  rcases v with a | ⟨t0, k⟩
  · exact h
  · match t0, h with
    | 0, h => exact h
    | 1, h => exact h
    | 2, h =>
      obtain ⟨q, h1, h2⟩ := h
      exact ⟨q, by rw [List.getElem?_append_left (List.getElem?_eq_some_iff.mp h1).1]; exact h1, h2⟩
    | 3, h => exact h
    | 4, h => exact h
    | 5, h => exact h
    | 6, h => exact h
    | 7, h => exact h
    | 8, h => exact h
    | 9, h => exact h
    | n + 10, h => exact h
theorem rvR_cat {ad : List Nat} {ex : Nat → Nat → Nat} {v : rvV} {x : Value} (h : rvR ad ex v x) : x.category = bif rvIsL v then 2 else 1 := by
  rcases v with a | ⟨t0, k⟩
  · obtain ⟨n, rfl, -⟩ := h
    rfl
  · match t0, h with
    | 0, h => cases h; rfl
    | 1, h => obtain ⟨n, rfl⟩ := h; rfl
    | 2, h => obtain ⟨q, -, rfl⟩ := h; rfl
    | 3, h => cases h; rfl
    | 4, h => cases h; rfl
    | 5, h => cases h; rfl
    | 6, h => rcases h with rfl | ⟨q, rfl⟩ <;> rfl
    | 7, h => cases h; rfl
    | 8, h => cases h; rfl
    | 9, h => exact absurd h id
    | n + 10, h => cases h; rfl
theorem rvR_A {ad : List Nat} {ex : Nat → Nat → Nat} {v : rvV} {x : Value} (hv : rvIsA v = true) (h : rvR ad ex v x) : x = .null ∨ ∃ q : Nat, x = .ref q := by
  rcases v with a | ⟨t0, k⟩
  · cases hv
  · match t0, h, hv with
    | 0, h, _ => exact Or.inl h
    | 1, h, hv => cases hv
    | 2, h, _ => obtain ⟨q, -, rfl⟩ := h; exact Or.inr ⟨q, rfl⟩
    | 3, h, _ => exact Or.inr ⟨_, h⟩
    | 4, h, _ => exact Or.inr ⟨_, h⟩
    | 5, h, _ => exact Or.inr ⟨_, h⟩
    | 6, h, _ => exact h
    | 7, h, hv => cases hv
    | 8, h, _ => exact Or.inr ⟨_, h⟩
    | 9, h, hv => cases hv
    | n + 10, h, _ => exact Or.inr ⟨_, h⟩
theorem rvRs_mono {ad : List Nat} {ex : Nat → Nat → Nat} (t : List Nat) : ∀ {vs : List rvV} {xs : List Value}, rvRs ad ex vs xs → rvRs (ad ++ t) ex vs xs
  | [], [], _ => trivial
  | _ :: _, _ :: _, h => ⟨rvR_mono t h.1, rvRs_mono t h.2⟩
  | [], _ :: _, h => h
  | _ :: _, [], h => h
theorem rvRs_cons {ad : List Nat} {ex : Nat → Nat → Nat} {v : rvV} {vs : List rvV} {xs : List Value} (h : rvRs ad ex (v :: vs) xs) : ∃ y ys, xs = y :: ys ∧ rvR ad ex v y ∧ rvRs ad ex vs ys := by
  cases xs with
  | nil => exact absurd h id
  | cons y ys => exact ⟨y, ys, rfl, h.1, h.2⟩
theorem rvRs_nil {ad : List Nat} {ex : Nat → Nat → Nat} {xs : List Value} (h : rvRs ad ex [] xs) : xs = [] := by
  cases xs with
  | nil => rfl
  | cons y ys => exact absurd h id
theorem rvRs_get {ad : List Nat} {ex : Nat → Nat → Nat} : ∀ {vs : List rvV} {xs : List Value} {k : Nat} {v : rvV}, rvRs ad ex vs xs → vs[k]? = some v → ∃ x, xs[k]? = some x ∧ rvR ad ex v x
  | [], _, _, _, _, hv => by simp at hv
  | w :: vs, [], _, _, h, _ => absurd h id
  | w :: vs, y :: ys, 0, v, h, hv => ⟨y, rfl, by
      have e : w = v := by simpa using hv
      rw [← e]; exact h.1⟩
  | w :: vs, y :: ys, k + 1, v, h, hv => by
      obtain ⟨x, h1, h2⟩ := rvRs_get (k := k) h.2 (by simpa using hv)
      exact ⟨x, by simpa using h1, h2⟩
theorem rvRs_set {ad : List Nat} {ex : Nat → Nat → Nat} : ∀ {vs : List rvV} {xs : List Value} {k : Nat} {v : rvV} {x : Value}, rvRs ad ex vs xs → rvR ad ex v x → rvRs ad ex (vs.set k v) (xs.set k x)
  | [], [], _, _, _, _, _ => trivial
  | w :: vs, [], _, _, _, h, _ => absurd h id
  | [], y :: ys, _, _, _, h, _ => absurd h id
  | w :: vs, y :: ys, 0, v, x, h, hv => ⟨hv, h.2⟩
  | w :: vs, y :: ys, k + 1, v, x, h, hv => ⟨h.1, rvRs_set (k := k) h.2 hv⟩
theorem rvRs_len {ad : List Nat} {ex : Nat → Nat → Nat} : ∀ {vs : List rvV} {xs : List Value}, rvRs ad ex vs xs → rvLen vs = xs.length
  | [], [], _ => rfl
  | w :: vs, [], h => absurd h id
  | [], y :: ys, h => absurd h id
  | w :: vs, y :: ys, h => by
      have := rvRs_len h.2
      simp [rvLen, this]
theorem rvRs_wd {ad : List Nat} {ex : Nat → Nat → Nat} : ∀ {vs : List rvV} {xs : List Value}, rvRs ad ex vs xs → (xs.map fun v => v.category).sum = rvWd vs
  | [], [], _ => rfl
  | w :: vs, [], h => absurd h id
  | [], y :: ys, h => absurd h id
  | w :: vs, y :: ys, h => by
      have h1 := rvRs_wd h.2
      have h2 := rvR_cat h.1
      simp [rvWd, h1, h2]
theorem rvRs_pop {ad : List Nat} {ex : Nat → Nat → Nat} : ∀ (n : Nat) {st acc : List rvV} {xs ys : List Value} {as rest : List rvV}, rvPop n st acc = some (as, rest) → rvRs ad ex st xs → rvRs ad ex acc ys → ∃ us vs, xs = us ++ vs ∧ us.length = n ∧ rvRs ad ex as (us.reverse ++ ys) ∧ rvRs ad ex rest vs
  | 0, st, acc, xs, ys, as, rest, h, hs, ha => by
      simp only [rvPop, Option.some.injEq, Prod.mk.injEq] at h
      obtain ⟨rfl, rfl⟩ := h
      exact ⟨[], xs, rfl, rfl, ha, hs⟩
  | n + 1, [], acc, xs, ys, as, rest, h, hs, ha => by cases h
  | n + 1, v :: st, acc, xs, ys, as, rest, h, hs, ha => by
      obtain ⟨y, zs, rfl, h1, h2⟩ := rvRs_cons hs
      obtain ⟨us, vs, e1, e2, e3, e4⟩ := rvRs_pop n (acc := v :: acc) (ys := y :: ys) h h2 ⟨h1, ha⟩
      exact ⟨y :: us, vs, by rw [e1]; rfl, by simp [e2], by simpa using e3, e4⟩
/-- numbers -/
theorem rv_lo (n : Int32) : -2147483648 ≤ n.toInt := Int32.le_toInt n
theorem rv_hi (n : Int32) : n.toInt ≤ 2147483647 := by
  have := Int32.toInt_lt n
  omega
theorem rvR_top {ad : List Nat} {ex : Nat → Nat → Nat} (n : Int32) : rvR ad ex rvTop (.int n) := ⟨n, rfl, rv_lo n, rv_hi n⟩
theorem rvR_K {ad : List Nat} {ex : Nat → Nat → Nat} {n : Int32} {k : Int} (h : n.toInt = k) : rvR ad ex (rvK k) (.int n) := ⟨n, rfl, by show k ≤ n.toInt; omega, by show n.toInt ≤ k; omega⟩
theorem rv_one {a : Int × Int} {n : Int32} (h : rvOne a = true) (h1 : a.1 ≤ n.toInt) (h2 : n.toInt ≤ a.2) : n.toInt = a.1 ∧ n = Int32.ofInt a.1 := by
  have e : a.1 = a.2 := of_decide_eq_true h
  have e2 : n.toInt = a.1 := by omega
  exact ⟨e2, by rw [← e2, Int32.ofInt_toInt]⟩
theorem rvBin_ok {ad : List Nat} {ex : Nat → Nat → Nat} {f : Int32 → Int32 → Int32} {a b : Int × Int} {x y : Int32} (h1 : a.1 ≤ x.toInt) (h2 : x.toInt ≤ a.2) (h3 : b.1 ≤ y.toInt) (h4 : y.toInt ≤ b.2) : rvR ad ex (rvBin f a b) (.int (f x y)) := by
  unfold rvBin
  cases ha : rvOne a with
  | false => exact rvR_top _
  | true =>
    cases hb : rvOne b with
    | false => exact rvR_top _
    | true =>
      obtain ⟨-, e1⟩ := rv_one ha h1 h2
      obtain ⟨-, e2⟩ := rv_one hb h3 h4
      rw [e1, e2]
      exact rvR_K rfl
theorem rvLt_ok {a b : Int × Int} {x y : Int32} {r : Bool} (h : rvLt a b = some r) (h1 : a.1 ≤ x.toInt) (h2 : x.toInt ≤ a.2) (h3 : b.1 ≤ y.toInt) (h4 : y.toInt ≤ b.2) : (x < y) ↔ r = true := by
  rw [Int32.lt_iff_toInt_lt]
  unfold rvLt at h
  by_cases c1 : a.2 < b.1
  · rw [decide_eq_true c1] at h
    cases h
    exact ⟨fun _ => rfl, fun _ => by omega⟩
  · rw [decide_eq_false c1] at h
    obtain ⟨c2, rfl⟩ := rv_bif (show (bif decide (b.2 ≤ a.1) then some false else none) = some r from h)
    have := of_decide_eq_true c2
    exact ⟨fun q => by omega, fun q => by cases q⟩
theorem rvEq_ok {a b : Int × Int} {x y : Int32} {r : Bool} (h : rvEq a b = some r) (h1 : a.1 ≤ x.toInt) (h2 : x.toInt ≤ a.2) (h3 : b.1 ≤ y.toInt) (h4 : y.toInt ≤ b.2) : (x = y) ↔ r = true := by
  rw [← Int32.toInt_inj]
  unfold rvEq at h
  cases hc : (rvOne a && rvOne b) with
  | true =>
    rw [hc] at h
    obtain ⟨ha, hb⟩ := rv_and hc
    obtain ⟨e1, -⟩ := rv_one ha h1 h2
    obtain ⟨e2, -⟩ := rv_one hb h3 h4
    have hr : decide (a.1 = b.1) = r := Option.some.inj h
    rw [e1, e2, ← hr]
    simp
  | false =>
    rw [hc] at h
    obtain ⟨c2, rfl⟩ := rv_bif (show (bif decide (a.2 < b.1) || decide (b.2 < a.1) then some false else none) = some r from h)
    rcases rv_or' c2 with q | q
    · have := of_decide_eq_true q
      exact ⟨fun z => by omega, fun z => by cases z⟩
    · have := of_decide_eq_true q
      exact ⟨fun z => by omega, fun z => by cases z⟩
theorem rvNo_ok {o : Option Bool} {r : Bool} (h : rvNo o = some r) : o = some (!r) := by
  cases o with
  | none => cases h
  | some b =>
    have e : (!b) = r := Option.some.inj h
    rw [← e]
    simp
theorem rvJ_ok {pc t : Nat} {off : Int} (h : rvJ pc off = some t) : (pc : Int) + off = (t : Int) := by
  obtain ⟨h1, h2⟩ := rv_bif h
  have := of_decide_eq_true h1
  rw [← h2]
  omega
theorem rvIdx_ok {a : Int × Int} {n j : Nat} {x : Int32} (h : rvIdx a n = some j) (h1 : a.1 ≤ x.toInt) (h2 : x.toInt ≤ a.2) : vp_in x n ∧ x.toNatClampNeg = j ∧ j < n := by
  obtain ⟨hc, hj⟩ := rv_bif h
  obtain ⟨ha, hb⟩ := rv_and hc
  obtain ⟨hb, hd⟩ := rv_and hb
  have q1 := of_decide_eq_true hb
  have q2 := of_decide_eq_true hd
  obtain ⟨e1, -⟩ := rv_one ha h1 h2
  have e2 : x.toNatClampNeg = x.toInt.toNat := rfl
  have e3 : ¬ x < 0 := by
    rw [Int32.lt_iff_toInt_lt]
    show ¬ x.toInt < 0
    omega
  refine ⟨fun q => ?_, by rw [e2, e1, hj], by omega⟩
  rcases q with q | q
  · exact e3 q
  · rw [e2, e1] at q
    omega
theorem rv_ofInt {n : Int} (h : rvIn (n, n) (-2147483648) 2147483647 = true) : (Int32.ofInt n).toInt = n := by
  obtain ⟨h1, h2⟩ := rv_and h
  have q1 : -2147483648 ≤ n := of_decide_eq_true h1
  have q2 : n ≤ 2147483647 := of_decide_eq_true h2
  exact Int32.toInt_ofInt_of_le (by omega) (by omega)
theorem rv_ofInt8 {n : Int} (h : rvIn (n, n) (-128) 127 = true) : (Int8.ofInt n).toInt32.toInt = n := by
  obtain ⟨h1, h2⟩ := rv_and h
  have q1 : -128 ≤ n := of_decide_eq_true h1
  have q2 : n ≤ 127 := of_decide_eq_true h2
  rw [Int8.toInt_toInt32]
  exact Int8.toInt_ofInt_of_le (by omega) (by omega)
theorem rv_ofInt16 {n : Int} (h : rvIn (n, n) (-32768) 32767 = true) : (Int16.ofInt n).toInt32.toInt = n := by
  obtain ⟨h1, h2⟩ := rv_and h
  have q1 : -32768 ≤ n := of_decide_eq_true h1
  have q2 : n ≤ 32767 := of_decide_eq_true h2
  rw [Int16.toInt_toInt32]
  exact Int16.toInt_ofInt_of_le (by omega) (by omega)
/-- rows -/
theorem rvLook_up (d v : rvV) (j i : Nat) : ∀ ov : List (Nat × rvV), rvLook d (rvUp ov j v) i = if i = j then v else rvLook d ov i
  | [] => by
      show (bif Nat.beq j i then v else d) = _
      by_cases h : i = j
      · subst h; simp
      · have e : Nat.beq j i = false := by
          cases hb : Nat.beq j i with
          | false => rfl
          | true => exact absurd (rv_beq hb).symm h
        rw [e, if_neg h]
        rfl
  | (k, w) :: t => by
      have ih := rvLook_up d v j i t
      cases hb : Nat.beq k j with
      | true =>
        have e := rv_beq hb
        subst e
        have e2 : rvUp ((k, w) :: t) k v = (k, v) :: t := by simp [rvUp]
        rw [e2]
        show (bif Nat.beq k i then v else rvLook d t i) = _
        by_cases h : i = k
        · subst h; simp
        · have e : Nat.beq k i = false := by
            cases hb : Nat.beq k i with
            | false => rfl
            | true => exact absurd (rv_beq hb).symm h
          rw [e, if_neg h]
          show rvLook d t i = (bif Nat.beq k i then w else rvLook d t i)
          rw [e]
          rfl
      | false =>
        have e2 : rvUp ((k, w) :: t) j v = (k, w) :: rvUp t j v := by
          show (bif Nat.beq k j then (j, v) :: t else (k, w) :: rvUp t j v) = _
          rw [hb]; rfl
        rw [e2]
        show (bif Nat.beq k i then w else rvLook d (rvUp t j v) i) = if i = j then v else (bif Nat.beq k i then w else rvLook d t i)
        rw [ih]
        cases hc : Nat.beq k i with
        | true =>
          have e := rv_beq hc
          subst e
          have hne : ¬ k = j := fun q => by rw [q, Nat.beq_refl] at hb; cases hb
          simp [hne]
        | false => rfl
end
section
/-- a cell and what the run knows of it; cT: the classes of rows -/
def rvCe (cT : Nat → ClassId) (ad : List Nat) (ex : Nat → Nat → Nat) (c : rvC) (e : va_E) : Prop := match c with
  | .inl (ci, fs) => ∃ vs : List Value, e = .inr (ci, vs) ∧ rvRs ad ex fs vs
  | .inr (q, n, d, ov) =>
    (q < 3 ∧ ∃ f : Nat → Int32, e = .inl (cT q, n, .inl f) ∧ ∀ j, j < n → rvR ad ex (rvLook d ov j) (.int (f j))) ∨
    (q = 3 ∧ ∃ f : Nat → Int64, e = .inl (cT q, n, .inr (.inl f))) ∨
    ((q = 4 ∨ q = 5) ∧ ∃ f : Nat → Option Nat, e = .inl (cT q, n, .inr (.inr (.inr (.inr f)))) ∧ ∀ j, j < n → rvR ad ex (rvLook d ov j) (va_rf (f j)))
def rvWoo (cT : Nat → ClassId) (ad : List Nat) (ex : Nat → Nat → Nat) : rvH → va_W → Prop
  | [], [] => True
  | c :: cs, q :: qs => rvCe cT ad ex c q.2 ∧ rvWoo cT ad ex cs qs
  | _, _ => False
theorem rvCe_mono {cT : Nat → ClassId} {ad : List Nat} {ex : Nat → Nat → Nat} {c : rvC} {e : va_E} (t : List Nat) (h : rvCe cT ad ex c e) : rvCe cT (ad ++ t) ex c e := by
  rcases c with ⟨ci, fs⟩ | ⟨q, n, d, ov⟩
  · obtain ⟨vs, h1, h2⟩ := h
    exact ⟨vs, h1, rvRs_mono t h2⟩
  · rcases h with ⟨h0, f, h1, h2⟩ | h | ⟨h0, f, h1, h2⟩
    · exact Or.inl ⟨h0, f, h1, fun j hj => rvR_mono t (h2 j hj)⟩
    · exact Or.inr (Or.inl h)
    · exact Or.inr (Or.inr ⟨h0, f, h1, fun j hj => rvR_mono t (h2 j hj)⟩)
theorem rvWoo_mono {cT : Nat → ClassId} {ad : List Nat} {ex : Nat → Nat → Nat} (t : List Nat) : ∀ {aw : rvH} {ws : va_W}, rvWoo cT ad ex aw ws → rvWoo cT (ad ++ t) ex aw ws
  | [], [], _ => trivial
  | _ :: _, _ :: _, h => ⟨rvCe_mono t h.1, rvWoo_mono t h.2⟩
  | [], _ :: _, h => h
  | _ :: _, [], h => h
theorem rvWoo_get {cT : Nat → ClassId} {ad : List Nat} {ex : Nat → Nat → Nat} : ∀ {aw : rvH} {ws : va_W} {k : Nat} {c : rvC}, rvWoo cT ad ex aw ws → aw[k]? = some c → ∃ q : Nat × va_E, ws[k]? = some q ∧ rvCe cT ad ex c q.2
  | [], _, _, _, _, hv => by simp at hv
  | w :: vs, [], _, _, h, _ => absurd h id
  | w :: vs, y :: ys, 0, v, h, hv => ⟨y, rfl, by
      have e : w = v := by simpa using hv
      rw [← e]; exact h.1⟩
  | w :: vs, y :: ys, k + 1, v, h, hv => by
      obtain ⟨x, h1, h2⟩ := rvWoo_get (k := k) h.2 (by simpa using hv)
      exact ⟨x, by simpa using h1, h2⟩
theorem rvWoo_set {cT : Nat → ClassId} {ad : List Nat} {ex : Nat → Nat → Nat} : ∀ {aw : rvH} {ws : va_W} {k : Nat} {c : rvC} {q : Nat × va_E}, rvWoo cT ad ex aw ws → rvCe cT ad ex c q.2 → rvWoo cT ad ex (aw.set k c) (ws.set k q)
  | [], [], _, _, _, _, _ => trivial
  | w :: vs, [], _, _, _, h, _ => absurd h id
  | [], y :: ys, _, _, _, h, _ => absurd h id
  | w :: vs, y :: ys, 0, v, x, h, hv => ⟨hv, h.2⟩
  | w :: vs, y :: ys, k + 1, v, x, h, hv => ⟨h.1, rvWoo_set (k := k) h.2 hv⟩
theorem rvWoo_push {cT : Nat → ClassId} {ad : List Nat} {ex : Nat → Nat → Nat} {c : rvC} {q : Nat × va_E} : ∀ {aw : rvH} {ws : va_W}, rvWoo cT ad ex aw ws → rvCe cT ad ex c q.2 → rvWoo cT ad ex (aw ++ [c]) (ws ++ [q])
  | [], [], _, hv => ⟨hv, trivial⟩
  | w :: vs, [], h, _ => absurd h id
  | [], y :: ys, h, _ => absurd h id
  | w :: vs, y :: ys, h, hv => ⟨h.1, rvWoo_push h.2 hv⟩
theorem rvWoo_len {cT : Nat → ClassId} {ad : List Nat} {ex : Nat → Nat → Nat} : ∀ {aw : rvH} {ws : va_W}, rvWoo cT ad ex aw ws → aw.length = ws.length
  | [], [], _ => rfl
  | w :: vs, [], h => absurd h id
  | [], y :: ys, h => absurd h id
  | w :: vs, y :: ys, h => by simp [rvWoo_len h.2]
/-- and the first places are at the addresses that cT keeps (its numbers from 99 on) -/
def rvWo (cT : Nat → ClassId) (ad : List Nat) (ex : Nat → Nat → Nat) (aw : rvH) (ws : va_W) : Prop := rvWoo cT ad ex aw ws ∧ ∀ k : Nat, k < cT 99 → ad[k]? = some (cT (100 + k))
theorem rvWo_mono {cT : Nat → ClassId} {ad : List Nat} {ex : Nat → Nat → Nat} (t : List Nat) {aw : rvH} {ws : va_W} (h : rvWo cT ad ex aw ws) : rvWo cT (ad ++ t) ex aw ws :=
  ⟨rvWoo_mono t h.1, fun k hk => by rw [List.getElem?_append_left (List.getElem?_eq_some_iff.mp (h.2 k hk)).1]; exact h.2 k hk⟩
theorem rvWo_get {cT : Nat → ClassId} {ad : List Nat} {ex : Nat → Nat → Nat} {aw : rvH} {ws : va_W} {k : Nat} {c : rvC} (h : rvWo cT ad ex aw ws) (hk : aw[k]? = some c) : ∃ q : Nat × va_E, ws[k]? = some q ∧ rvCe cT ad ex c q.2 := rvWoo_get h.1 hk
theorem rvWo_set {cT : Nat → ClassId} {ad : List Nat} {ex : Nat → Nat → Nat} {aw : rvH} {ws : va_W} {k : Nat} {c : rvC} {q : Nat × va_E} (h : rvWo cT ad ex aw ws) (hc : rvCe cT ad ex c q.2) : rvWo cT ad ex (aw.set k c) (ws.set k q) := ⟨rvWoo_set h.1 hc, h.2⟩
theorem rvWo_push {cT : Nat → ClassId} {ad : List Nat} {ex : Nat → Nat → Nat} {c : rvC} {q : Nat × va_E} {aw : rvH} {ws : va_W} (h : rvWo cT ad ex aw ws) (hc : rvCe cT ad ex c q.2) : rvWo cT ad ex (aw ++ [c]) (ws ++ [q]) := ⟨rvWoo_push h.1 hc, h.2⟩
theorem rvWo_len {cT : Nat → ClassId} {ad : List Nat} {ex : Nat → Nat → Nat} {aw : rvH} {ws : va_W} (h : rvWo cT ad ex aw ws) : aw.length = ws.length := rvWoo_len h.1
def rvCt (cT : Nat → ClassId) (ad : List Nat) : Nat → ClassId := fun n => if n < 99 then cT n else if n = 99 then ad.length else ad.getD (n - 100) 0
theorem rvCe_c {cT cU : Nat → ClassId} {ad : List Nat} {ex : Nat → Nat → Nat} {c : rvC} {e : va_E} (hc : ∀ q, q < 6 → cT q = cU q) (h : rvCe cT ad ex c e) : rvCe cU ad ex c e := by
  rcases c with ⟨ci, fs⟩ | ⟨q, n, d, ov⟩
  · exact h
  · rcases h with ⟨h0, f, h1, h2⟩ | ⟨h0, f, h1⟩ | ⟨h0, f, h1, h2⟩
    · exact Or.inl ⟨h0, f, by rw [← hc q (by omega)]; exact h1, h2⟩
    · exact Or.inr (Or.inl ⟨h0, f, by rw [← hc q (by omega)]; exact h1⟩)
    · exact Or.inr (Or.inr ⟨h0, f, by rw [← hc q (by omega)]; exact h1, h2⟩)
theorem rvWoo_c {cT cU : Nat → ClassId} {ad : List Nat} {ex : Nat → Nat → Nat} (hc : ∀ q, q < 6 → cT q = cU q) : ∀ {aw : rvH} {ws : va_W}, rvWoo cT ad ex aw ws → rvWoo cU ad ex aw ws
  | [], [], _ => trivial
  | w :: vs, [], h => absurd h id
  | [], y :: ys, h => absurd h id
  | w :: vs, y :: ys, h => ⟨rvCe_c hc h.1, rvWoo_c hc h.2⟩
theorem rvCt_c (cT : Nat → ClassId) (ad : List Nat) : ∀ q, q < 6 → cT q = rvCt cT ad q := fun q hq => by
  unfold rvCt
  rw [if_pos (by omega)]
theorem rvWo_in {cT : Nat → ClassId} {ad : List Nat} {ex : Nat → Nat → Nat} {aw : rvH} {ws : va_W} (h : rvWoo cT ad ex aw ws) : rvWo (rvCt cT ad) ad ex aw ws := by
  refine ⟨rvWoo_c (rvCt_c cT ad) h, fun k hk => ?_⟩
  have e1 : rvCt cT ad 99 = ad.length := by simp [rvCt]
  have e2 : rvCt cT ad (100 + k) = ad.getD k 0 := by
    unfold rvCt
    rw [if_neg (by omega), if_neg (by omega), show 100 + k - 100 = k by omega]
  rw [e1] at hk
  rw [e2, List.getD_eq_getElem?_getD, List.getElem?_eq_getElem hk]
  rfl
theorem rvWo_out {cT : Nat → ClassId} {ad ad0 : List Nat} {ex : Nat → Nat → Nat} {aw : rvH} {ws : va_W} (h : rvWo (rvCt cT ad0) ad ex aw ws) : rvWoo cT ad ex aw ws ∧ ∃ t, ad = ad0 ++ t := by
  refine ⟨rvWoo_c (fun q hq => (rvCt_c cT ad0 q hq).symm) h.1, ad.drop ad0.length, ?_⟩
  have e1 : rvCt cT ad0 99 = ad0.length := by simp [rvCt]
  have h2 := h.2
  rw [e1] at h2
  have h3 : ∀ k, k < ad0.length → ad[k]? = ad0[k]? := fun k hk => by
    have e2 : rvCt cT ad0 (100 + k) = ad0.getD k 0 := by
      unfold rvCt
      rw [if_neg (by omega), if_neg (by omega), show 100 + k - 100 = k by omega]
    rw [h2 k hk, e2, List.getD_eq_getElem?_getD, List.getElem?_eq_getElem hk]
    rfl
  have hlen : ad0.length ≤ ad.length := by
    cases hz : ad0.length with
    | zero => exact Nat.zero_le _
    | succ n =>
      have := (List.getElem?_eq_some_iff.mp (h2 n (by omega))).1
      omega
  apply List.ext_getElem?
  intro k
  by_cases hk : k < ad0.length
  · rw [List.getElem?_append_left hk]
    exact h3 k hk
  · rw [List.getElem?_append_right (by omega), List.getElem?_drop]
    congr 1
    omega
/-- the addresses of the places -/
abbrev rvAd (ws : va_W) : List Nat := ws.map (·.1)
theorem rvAd_set {ws : va_W} {k a : Nat} {e0 e : va_E} (h : ws[k]? = some (a, e0)) : rvAd (ws.set k (a, e)) = rvAd ws := by
  apply List.ext_getElem?
  intro i
  simp only [List.getElem?_map, List.getElem?_set]
  by_cases hk : k = i
  · subst hk
    have hl := (List.getElem?_eq_some_iff.mp h).1
    simp [hl, h]
    have := (List.getElem?_eq_some_iff.mp h).2
    rw [this]
  · simp [hk]
theorem rvAd_push {ws : va_W} {q : Nat × va_E} : rvAd (ws ++ [q]) = rvAd ws ++ [q.1] := by simp
theorem rvAd_at {ws : va_W} {k a : Nat} {e : va_E} (h : ws[k]? = some (a, e)) : (rvAd ws)[k]? = some a := by
  simp [List.getElem?_map, h]
/-- a reference is the address of its place -/
theorem rvAd_ref {ws : va_W} {k a q : Nat} {e : va_E} (h : ws[k]? = some (a, e)) (h2 : (rvAd ws)[k]? = some q) : q = a := by
  rw [rvAd_at h] at h2
  exact (Option.some.inj h2).symm
/-! locals -/
def rvLo (ad : List Nat) (ex : Nat → Nat → Nat) (mL : Nat) (al : List rvV) (ls : Array Slot) : Prop :=
  al.length = mL ∧ ∃ l : List (Nat × Value), lv_has ls mL l ∧ ∀ (i : Nat) (v : rvV), al[i]? = some v → (∃ z, v = .inr (9, z)) ∨ ∃ x : Value, (i, x) ∈ l ∧ rvR ad ex v x
theorem rvLo_mono {ad : List Nat} {ex : Nat → Nat → Nat} {mL : Nat} {al : List rvV} {ls : Array Slot} (t : List Nat) (h : rvLo ad ex mL al ls) : rvLo (ad ++ t) ex mL al ls := by
  obtain ⟨h0, l, h1, h2⟩ := h
  refine ⟨h0, l, h1, fun i v hv => ?_⟩
  rcases h2 i v hv with q | ⟨x, q1, q2⟩
  · exact Or.inl q
  · exact Or.inr ⟨x, q1, rvR_mono t q2⟩
theorem rvLo_get {ad : List Nat} {ex : Nat → Nat → Nat} {mL : Nat} {al : List rvV} {ls : Array Slot} {i : Nat} {v : rvV} (h : rvLo ad ex mL al ls) (hv : al[i]? = some v) (hn : ∀ z, v ≠ .inr (9, z)) : ∃ x : Value, ls[i]? = some (.val x) ∧ rvR ad ex v x := by
  obtain ⟨-, l, h1, h2⟩ := h
  rcases h2 i v hv with ⟨z, q⟩ | ⟨x, q1, q2⟩
  · exact absurd q (hn z)
  · exact ⟨x, h1.2.2 (i, x) q1, q2⟩
/-- behind a store of one or two words -/
theorem rvSet_at {al : List rvV} {i j : Nat} {v w : rvV} (hi : i < al.length) (h : (rvSet al i v)[j]? = some w) : (j = i ∧ w = v) ∨ (j ≠ i ∧ ((∃ z, w = .inr (9, z)) ∨ (al[j]? = some w ∧ (j + 1 = i → rvIsL w = false)))) := by
  cases i with
  | zero =>
    have h : (al.set 0 v)[j]? = some w := h
    rw [List.getElem?_set] at h
    by_cases hj : 0 = j
    · subst hj
      simp [hi] at h
      exact Or.inl ⟨rfl, h.symm⟩
    · simp [hj] at h
      exact Or.inr ⟨fun q => hj q.symm, Or.inr ⟨h, fun q => absurd q (Nat.succ_ne_zero j)⟩⟩
  | succ k =>
    have hk : k < al.length := by omega
    have e : al[k]? = some al[k] := List.getElem?_eq_getElem hk
    have h : (match al[k]? with
      | some w => bif rvIsL w then (al.set k rvU).set (k + 1) v else al.set (k + 1) v
      | none => al)[j]? = some w := h
    rw [e] at h
    have h : (bif rvIsL al[k] then (al.set k rvU).set (k + 1) v else al.set (k + 1) v)[j]? = some w := h
    cases hb : rvIsL al[k] with
    | true =>
      rw [hb] at h
      have h : ((al.set k rvU).set (k + 1) v)[j]? = some w := h
      rw [List.getElem?_set, List.getElem?_set] at h
      by_cases hj : k + 1 = j
      · subst hj
        simp [hi] at h
        exact Or.inl ⟨rfl, h.symm⟩
      · by_cases hj2 : k = j
        · subst hj2
          simp [hk] at h
          exact Or.inr ⟨by omega, Or.inl ⟨0, h.symm⟩⟩
        · simp [hj, hj2] at h
          exact Or.inr ⟨fun q => hj q.symm, Or.inr ⟨h, fun q => absurd q (by omega)⟩⟩
    | false =>
      rw [hb] at h
      have h : (al.set (k + 1) v)[j]? = some w := h
      rw [List.getElem?_set] at h
      by_cases hj : k + 1 = j
      · subst hj
        simp [hi] at h
        exact Or.inl ⟨rfl, h.symm⟩
      · have h9 : al[j]? = some w := by simpa [hj] using h
        refine Or.inr ⟨fun q => hj q.symm, Or.inr ⟨h9, fun q => ?_⟩⟩
        have e3 : j = k := by omega
        rw [e3, e] at h9
        rw [← Option.some.inj h9]
        exact hb
theorem rvSet_len (al : List rvV) (i : Nat) (v : rvV) : (rvSet al i v).length = al.length := by
  cases i with
  | zero => simp [rvSet]
  | succ k =>
    cases h : al[k]? with
    | none => simp [rvSet, h]
    | some w =>
      cases hb : rvIsL w with
      | true => simp [rvSet, h, hb]
      | false => simp [rvSet, h, hb]
theorem rvLo_set1 {ad : List Nat} {ex : Nat → Nat → Nat} {mL : Nat} {al : List rvV} {ls' : Array Slot} {l : List (Nat × Value)} {i : Nat} {v : rvV} {x : Value} (h0 : al.length = mL) (hi : i < mL)
    (h2 : ∀ (i : Nat) (v : rvV), al[i]? = some v → (∃ z, v = .inr (9, z)) ∨ ∃ x : Value, (i, x) ∈ l ∧ rvR ad ex v x) (hx : rvR ad ex v x)
    (hl : lv_has ls' mL ((i, x) :: l.filter (fun q => !(q.1 == i) && !(q.1 + 1 == i && q.2.category == 2)))) : rvLo ad ex mL (rvSet al i v) ls' := by
  refine ⟨by rw [rvSet_len]; exact h0, _, hl, fun j w hw => ?_⟩
  rcases rvSet_at (by omega) hw with ⟨rfl, rfl⟩ | ⟨hj, q | ⟨q1, q2⟩⟩
  · exact Or.inr ⟨x, List.mem_cons_self, hx⟩
  · exact Or.inl q
  · rcases h2 j w q1 with q | ⟨y, q3, q4⟩
    · exact Or.inl q
    · refine Or.inr ⟨y, List.mem_cons_of_mem _ (List.mem_filter.mpr ⟨q3, ?_⟩), q4⟩
      have hc := rvR_cat q4
      by_cases hji : j + 1 = i
      · rw [q2 hji] at hc
        have hc : y.category = 1 := hc
        simp [hj, hc]
      · simp [hj, hji]
theorem rvLo_set2 {ad : List Nat} {ex : Nat → Nat → Nat} {mL : Nat} {al : List rvV} {ls' : Array Slot} {l : List (Nat × Value)} {i : Nat} {v : rvV} {x : Value} (h0 : al.length = mL) (hi : i + 1 < mL)
    (h2 : ∀ (i : Nat) (v : rvV), al[i]? = some v → (∃ z, v = .inr (9, z)) ∨ ∃ x : Value, (i, x) ∈ l ∧ rvR ad ex v x) (hx : rvR ad ex v x)
    (hl : lv_has ls' mL ((i, x) :: l.filter (fun q => !(q.1 == i) && (!(q.1 == i + 1) && !(q.1 + 1 == i && q.2.category == 2))))) : rvLo ad ex mL ((rvSet al i v).set (i + 1) rvU) ls' := by
  refine ⟨by rw [List.length_set, rvSet_len]; exact h0, _, hl, fun j w hw => ?_⟩
  rw [List.getElem?_set] at hw
  by_cases hj1 : i + 1 = j
  · subst hj1
    have e : i + 1 < (rvSet al i v).length := by rw [rvSet_len]; omega
    simp [e] at hw
    exact Or.inl ⟨0, hw.symm⟩
  · simp [hj1] at hw
    rcases rvSet_at (by omega) hw with ⟨rfl, rfl⟩ | ⟨hj, q | ⟨q1, q2⟩⟩
    · exact Or.inr ⟨x, List.mem_cons_self, hx⟩
    · exact Or.inl q
    · rcases h2 j w q1 with q | ⟨y, q3, q4⟩
      · exact Or.inl q
      · refine Or.inr ⟨y, List.mem_cons_of_mem _ (List.mem_filter.mpr ⟨q3, ?_⟩), q4⟩
        have hc := rvR_cat q4
        have hj2 : ¬ j = i + 1 := fun q => hj1 q.symm
        by_cases hji : j + 1 = i
        · rw [q2 hji] at hc
          have hc : y.category = 1 := hc
          simp [hj, hj2, hc]
        · simp [hj, hj2, hji]
/-- a method's locals at its start -/
theorem rvEnt_ok {ad : List Nat} {ex : Nat → Nat → Nat} : ∀ {as : List rvV} {xs : List Value}, rvRs ad ex as xs → (lg_sl xs).length = rvLen (rvEnt as) ∧ ∀ (k : Nat) (i : Nat) (v : rvV), (rvEnt as)[i]? = some v → (∃ z, v = .inr (9, z)) ∨ ∃ x : Value, (k + i, x) ∈ lv_args k xs ∧ rvR ad ex v x
  | [], [], _ => ⟨rfl, fun k i v h => by simp [rvEnt] at h⟩
  | w :: vs, [], h => absurd h id
  | [], y :: ys, h => absurd h id
  | w :: vs, y :: ys, h => by
      obtain ⟨e1, e2⟩ := rvEnt_ok h.2
      have hc := rvR_cat h.1
      cases hb : rvIsL w with
      | true =>
        rw [hb] at hc
        have hc : y.category = 2 := hc
        have ee : rvEnt (w :: vs) = w :: rvU :: rvEnt vs := by simp [rvEnt, hb]
        have ea : ∀ k, lv_args k (y :: ys) = (k, y) :: lv_args (k + 2) ys := fun k => by simp [lv_args, hc]
        rw [ee]
        refine ⟨?_, fun k i v hv => ?_⟩
        · have : (lg_sl (y :: ys)).length = (lg_sl ys).length + 2 := by simp [lg_sl, hc]
          rw [this, e1]
          simp [rvLen]
        · rw [ea]
          match i, hv with
          | 0, hv => exact Or.inr ⟨y, List.mem_cons_self, by
              have e : w = v := by simpa using hv
              rw [← e]; exact h.1⟩
          | 1, hv => exact Or.inl ⟨0, by
              have e : rvU = v := by simpa using hv
              rw [← e]; rfl⟩
          | i + 2, hv =>
            rcases e2 (k + 2) i v (by simpa using hv) with q | ⟨x, q1, q2⟩
            · exact Or.inl q
            · exact Or.inr ⟨x, List.mem_cons_of_mem _ (by rw [show k + (i + 2) = k + 2 + i by omega]; exact q1), q2⟩
      | false =>
        rw [hb] at hc
        have hc : y.category = 1 := hc
        have ee : rvEnt (w :: vs) = w :: rvEnt vs := by simp [rvEnt, hb]
        have ea : ∀ k, lv_args k (y :: ys) = (k, y) :: lv_args (k + 1) ys := fun k => by simp [lv_args, hc]
        rw [ee]
        refine ⟨?_, fun k i v hv => ?_⟩
        · have : (lg_sl (y :: ys)).length = (lg_sl ys).length + 1 := by simp [lg_sl, hc]
          rw [this, e1]
          simp [rvLen]
        · rw [ea]
          match i, hv with
          | 0, hv => exact Or.inr ⟨y, List.mem_cons_self, by
              have e : w = v := by simpa using hv
              rw [← e]; exact h.1⟩
          | i + 1, hv =>
            rcases e2 (k + 1) i v (by simpa using hv) with q | ⟨x, q1, q2⟩
            · exact Or.inl q
            · exact Or.inr ⟨x, List.mem_cons_of_mem _ (by rw [show k + (i + 1) = k + 1 + i by omega]; exact q1), q2⟩
theorem rvLen_eq (l : List rvV) : rvLen l = l.length := by
  induction l with
  | nil => rfl
  | cons a t ih => simp [rvLen, ih]
theorem rvLo_entry {ad : List Nat} {ex : Nat → Nat → Nat} {as : List rvV} {xs : List Value} {mL : Nat} (h : rvRs ad ex as xs) (hm : rvLen (rvEnt as) ≤ mL) :
    rvLo ad ex mL (rvEnt as ++ List.replicate (mL - rvLen (rvEnt as)) rvU) (lg_sl xs ++ List.replicate (mL - (lg_sl xs).length) Slot.unset).toArray := by
  obtain ⟨e1, e2⟩ := rvEnt_ok h
  refine ⟨by rw [List.length_append, List.length_replicate, ← rvLen_eq]; omega, _, lv_entry xs (by omega), fun i v hv => ?_⟩
  by_cases hi : i < (rvEnt as).length
  · rw [List.getElem?_append_left hi] at hv
    rcases e2 0 i v hv with q | ⟨x, q1, q2⟩
    · exact Or.inl q
    · exact Or.inr ⟨x, by rw [Nat.zero_add] at q1; exact q1, q2⟩
  · rw [List.getElem?_append_right (by omega)] at hv
    have := List.mem_of_getElem? hv
    exact Or.inl ⟨0, List.eq_of_mem_replicate this⟩
/-! fields -/
theorem rvFit_ok {ad : List Nat} {ex : Nat → Nat → Nat} {ty : FieldType} {v : rvV} {x : Value} (h : rvFit ty v = true) (hx : rvR ad ex v x) : narrow ty x = x ∧ fits ty x = true := by
  have small : ∀ (n : Int32), 0 ≤ n.toInt → n.toInt ≤ 1 → n = 0 ∨ n = 1 := fun n h1 h2 => by
    rcases (show n.toInt = 0 ∨ n.toInt = 1 by omega) with q | q
    · exact Or.inl (Int32.toInt_inj.mp q)
    · exact Or.inr (Int32.toInt_inj.mp q)
  cases ty with
  | int =>
    rcases v with a | ⟨t, k⟩
    · obtain ⟨n, rfl, -⟩ := hx
      exact ⟨rfl, rfl⟩
    · match t, h with
      | 0, h => cases h
      | 1, h => cases h
      | 2, h => cases h
      | n + 3, h => cases h
  | boolean =>
    rcases v with a | ⟨t, k⟩
    · obtain ⟨n, rfl, h1, h2⟩ := hx
      obtain ⟨g1, g2⟩ := rv_and h
      have g1 := of_decide_eq_true g1
      have g2 := of_decide_eq_true g2
      rcases small n (by omega) (by omega) with rfl | rfl
      · exact ⟨rfl, rfl⟩
      · exact ⟨rfl, rfl⟩
    · match t, h with
      | 0, h => cases h
      | 1, h => cases h
      | 2, h => cases h
      | n + 3, h => cases h
  | byte =>
    rcases v with a | ⟨t, k⟩
    · obtain ⟨n, rfl, h1, h2⟩ := hx
      obtain ⟨g1, g2⟩ := rv_and h
      have g1 := of_decide_eq_true g1
      have g2 := of_decide_eq_true g2
      refine ⟨?_, ?_⟩
      · show Value.int n.toInt8.toInt32 = .int n
        congr 1
        apply Int32.toInt_inj.mp
        rw [Int8.toInt_toInt32, Int32.toInt_toInt8]
        exact Int.bmod_eq_of_le (by omega) (by omega)
      · show (decide (-128 ≤ n) && decide (n ≤ 127)) = true
        rw [Bool.and_eq_true, decide_eq_true_eq, decide_eq_true_eq, Int32.le_iff_toInt_le, Int32.le_iff_toInt_le]
        exact ⟨show (-128 : Int) ≤ n.toInt by omega, show n.toInt ≤ 127 by omega⟩
    · match t, h with
      | 0, h => cases h
      | 1, h => cases h
      | 2, h => cases h
      | n + 3, h => cases h
  | char =>
    rcases v with a | ⟨t, k⟩
    · obtain ⟨n, rfl, h1, h2⟩ := hx
      obtain ⟨g1, g2⟩ := rv_and h
      have g1 := of_decide_eq_true g1
      have g2 := of_decide_eq_true g2
      have e : ∃ q : Nat, q < 65536 ∧ n = nI q := by
        refine ⟨n.toInt.toNat, by omega, ?_⟩
        apply Int32.toInt_inj.mp
        rw [nI_toInt (by omega)]
        omega
      obtain ⟨q, hq, rfl⟩ := e
      exact pk_charN hq
    · match t, h with
      | 0, h => cases h
      | 1, h => cases h
      | 2, h => cases h
      | n + 3, h => cases h
  | long =>
    rcases v with a | ⟨t, k⟩
    · cases h
    · match t, h, hx with
      | 0, h, _ => cases h
      | 1, h, hx => obtain ⟨n, rfl⟩ := hx; exact ⟨rfl, rfl⟩
      | 2, h, _ => cases h
      | n + 3, h, _ => cases h
  | object C =>
    rcases v with a | ⟨t, k⟩
    · cases h
    · match t, h, hx with
      | 0, h, hx => cases hx; exact ⟨rfl, rfl⟩
      | 1, h, _ => cases h
      | 2, h, hx => obtain ⟨q, -, rfl⟩ := hx; exact ⟨rfl, rfl⟩
      | n + 3, h, _ => cases h
  | array C =>
    rcases v with a | ⟨t, k⟩
    · cases h
    · match t, h, hx with
      | 0, h, hx => cases hx; exact ⟨rfl, rfl⟩
      | 1, h, _ => cases h
      | 2, h, hx => obtain ⟨q, -, rfl⟩ := hx; exact ⟨rfl, rfl⟩
      | n + 3, h, _ => cases h
  | short =>
    rcases v with a | ⟨t, k⟩
    · cases h
    · match t, h with
      | 0, h => cases h
      | 1, h => cases h
      | 2, h => cases h
      | n + 3, h => cases h
  | float =>
    rcases v with a | ⟨t, k⟩
    · cases h
    · match t, h with
      | 0, h => cases h
      | 1, h => cases h
      | 2, h => cases h
      | n + 3, h => cases h
  | double =>
    rcases v with a | ⟨t, k⟩
    · cases h
    · match t, h with
      | 0, h => cases h
      | 1, h => cases h
      | 2, h => cases h
      | n + 3, h => cases h
end
section
/-- the words that every method is given -/
def rvWl : List Cond := lw_tbl.filter goodWord
def rvNl : List Cond := lw_tbl.filter (fun w => match w with
  | .methodLinkNest _ _ _ _ => true
  | _ => false)
theorem rvWl_good : ∀ w ∈ rvWl, goodWord w = true := fun w h => (List.mem_filter.mp h).2
def rvW (i : Nat) (w : Cond) : Bool := decide (lw_tbl[i]? = some w) && goodWord w
theorem rvW_ok {i : Nat} {w : Cond} (h : rvW i w = true) : w ∈ rvWl := by
  obtain ⟨h1, h2⟩ := rv_and h
  exact List.mem_filter.mpr ⟨List.mem_of_getElem? (of_decide_eq_true h1), h2⟩
def rvTy : Nat → Nat → FieldType := fun n => (bif Nat.ble 6 n then (bif Nat.ble 9 n then (bif Nat.ble 11 n then (bif Nat.ble 12 n then (bif Nat.beq n 12 then tyX12 else (fun _ => .int)) else (bif Nat.beq n 11 then tyX11 else (fun _ => .int))) else (bif Nat.ble 10 n then (bif Nat.beq n 10 then tyX10 else (fun _ => .int)) else (bif Nat.beq n 9 then tyX9 else (fun _ => .int)))) else (bif Nat.ble 7 n then (bif Nat.ble 8 n then (bif Nat.beq n 8 then tyX8 else (fun _ => .int)) else (bif Nat.beq n 7 then tyX7 else (fun _ => .int))) else (bif Nat.beq n 6 then tyX6 else (fun _ => .int)))) else (bif Nat.ble 3 n then (bif Nat.ble 4 n then (bif Nat.ble 5 n then (bif Nat.beq n 5 then tyX5 else (fun _ => .int)) else (bif Nat.beq n 4 then tyX4 else (fun _ => .int))) else (bif Nat.beq n 3 then tyX3 else (fun _ => .int))) else (bif Nat.ble 1 n then (bif Nat.ble 2 n then (bif Nat.beq n 2 then tyX2 else (fun _ => .int)) else (bif Nat.beq n 1 then tyX1 else (fun _ => .int))) else (bif Nat.beq n 0 then tyX0 else (fun _ => .int)))))
def rvNf : Nat → Nat := fun n => (bif Nat.ble 6 n then (bif Nat.ble 9 n then (bif Nat.ble 11 n then (bif Nat.ble 12 n then (bif Nat.beq n 12 then 55 else 0) else (bif Nat.beq n 11 then 15 else 0)) else (bif Nat.ble 10 n then (bif Nat.beq n 10 then 8 else 0) else (bif Nat.beq n 9 then 15 else 0))) else (bif Nat.ble 7 n then (bif Nat.ble 8 n then (bif Nat.beq n 8 then 5 else 0) else (bif Nat.beq n 7 then 4 else 0)) else (bif Nat.beq n 6 then 5 else 0))) else (bif Nat.ble 3 n then (bif Nat.ble 4 n then (bif Nat.ble 5 n then (bif Nat.beq n 5 then 10 else 0) else (bif Nat.beq n 4 then 2 else 0)) else (bif Nat.beq n 3 then 2 else 0)) else (bif Nat.ble 1 n then (bif Nat.ble 2 n then (bif Nat.beq n 2 then 11 else 0) else (bif Nat.beq n 1 then 3 else 0)) else (bif Nat.beq n 0 then 9 else 0))))
def rvCn : Nat → String := fun n => (bif Nat.ble 6 n then (bif Nat.ble 9 n then (bif Nat.ble 11 n then (bif Nat.ble 12 n then (bif Nat.beq n 12 then RX12 else "") else (bif Nat.beq n 11 then RX11 else "")) else (bif Nat.ble 10 n then (bif Nat.beq n 10 then RX10 else "") else (bif Nat.beq n 9 then RX9 else ""))) else (bif Nat.ble 7 n then (bif Nat.ble 8 n then (bif Nat.beq n 8 then RX8 else "") else (bif Nat.beq n 7 then RX7 else "")) else (bif Nat.beq n 6 then RX6 else ""))) else (bif Nat.ble 3 n then (bif Nat.ble 4 n then (bif Nat.ble 5 n then (bif Nat.beq n 5 then RX5 else "") else (bif Nat.beq n 4 then RX4 else "")) else (bif Nat.beq n 3 then RX3 else "")) else (bif Nat.ble 1 n then (bif Nat.ble 2 n then (bif Nat.beq n 2 then RX2 else "") else (bif Nat.beq n 1 then RX1 else "")) else (bif Nat.beq n 0 then RX0 else ""))))
def rvFt : Nat → u_T := fun n => (bif Nat.ble 6 n then (bif Nat.ble 9 n then (bif Nat.ble 11 n then (bif Nat.ble 12 n then (bif Nat.beq n 12 then TX12 else (fun _ => ("", "", "", false))) else (bif Nat.beq n 11 then TX11 else (fun _ => ("", "", "", false)))) else (bif Nat.ble 10 n then (bif Nat.beq n 10 then TX10 else (fun _ => ("", "", "", false))) else (bif Nat.beq n 9 then TX9 else (fun _ => ("", "", "", false))))) else (bif Nat.ble 7 n then (bif Nat.ble 8 n then (bif Nat.beq n 8 then TX8 else (fun _ => ("", "", "", false))) else (bif Nat.beq n 7 then TX7 else (fun _ => ("", "", "", false)))) else (bif Nat.beq n 6 then TX6 else (fun _ => ("", "", "", false))))) else (bif Nat.ble 3 n then (bif Nat.ble 4 n then (bif Nat.ble 5 n then (bif Nat.beq n 5 then TX5 else (fun _ => ("", "", "", false))) else (bif Nat.beq n 4 then TX4 else (fun _ => ("", "", "", false)))) else (bif Nat.beq n 3 then TX3 else (fun _ => ("", "", "", false)))) else (bif Nat.ble 1 n then (bif Nat.ble 2 n then (bif Nat.beq n 2 then TX2 else (fun _ => ("", "", "", false))) else (bif Nat.beq n 1 then TX1 else (fun _ => ("", "", "", false)))) else (bif Nat.beq n 0 then TX0 else (fun _ => ("", "", "", false))))))
def rvTxt : List Int := [115, 116, 114, 101, 101, 116, 32, 116, 114, 97, 109, 32, 112, 101, 114, 115, 111, 110, 32, 109, 97, 114, 107, 32, 114, 105, 100, 101, 115, 32, 104, 97, 115, 32, 104, 97, 116, 101, 115, 32, 109, 97, 110, 32, 119, 111, 109, 97, 110, 32, 97, 119, 97, 121, 32, 103, 101, 116, 115, 32, 108, 111, 115, 101, 115, 32, 109, 111, 118, 101, 115, 32, 108, 101, 97, 118, 101, 115, 32, 99, 111, 109, 101, 115, 32, 121, 101, 97, 114, 32, 111, 114, 32, 97, 110, 100, 32, 110, 111, 116, 32, 105, 110, 32, 109, 105, 110, 100, 115, 32, 109, 97, 114, 107, 115, 32, 110, 117, 109, 98, 101, 114, 32]
def rvTyOk (ty : FieldType) : Bool := match ty with
  | .int => true
  | .boolean => true
  | .long => true
  | .object _ => true
  | .array _ => true
  | _ => false
def rvClOk (ci : Nat) (ps : List Nat) (i1 i2 : Nat) : Bool := rvW i1 (.instantiable (rvCn ci) (rvNf ci)) && (rvW i2 (.initialized (rvCn ci)) && (decide (u_ws (rvCn ci) (rvFt ci) (rvNf ci) = ps.filterMap (fun i => lw_tbl[i]?)) && ((u_ws (rvCn ci) (rvFt ci) (rvNf ci)).all goodWord && ((List.range (rvNf ci)).all fun k => rvTyOk (rvTy ci k) && decide (parseFieldDescriptor (rvFt ci k).2.2.1 = some (rvTy ci k))))))
def rvClP (ci : Nat) : Prop := Cond.instantiable (rvCn ci) (rvNf ci) ∈ rvWl ∧ Cond.initialized (rvCn ci) ∈ rvWl ∧ (∀ w ∈ u_ws (rvCn ci) (rvFt ci) (rvNf ci), w ∈ rvWl) ∧ (∀ k, k < rvNf ci → rvTyOk (rvTy ci k) = true ∧ parseFieldDescriptor (rvFt ci k).2.2.1 = some (rvTy ci k))
theorem rvCl_of {ci i1 i2 : Nat} {ps : List Nat} (h : rvClOk ci ps i1 i2 = true) : rvClP ci := by
  obtain ⟨h1, h⟩ := rv_and h
  obtain ⟨h2, h⟩ := rv_and h
  obtain ⟨h3, h⟩ := rv_and h
  obtain ⟨h4, h5⟩ := rv_and h
  have e := of_decide_eq_true h3
  refine ⟨rvW_ok h1, rvW_ok h2, fun w hw => ?_, fun k hk => ?_⟩
  · have g := List.all_eq_true.mp h4 w hw
    rw [e] at hw
    obtain ⟨i, -, hi⟩ := List.mem_filterMap.mp hw
    exact List.mem_filter.mpr ⟨List.mem_of_getElem? hi, g⟩
  · obtain ⟨g1, g2⟩ := rv_and (List.all_eq_true.mp h5 k (List.mem_range.mpr hk))
    exact ⟨g1, of_decide_eq_true g2⟩
theorem rvCl_0 : rvClP 0 := rvCl_of (ps := [327, 329, 331, 333, 335, 337, 339, 341, 343]) (i1 := 313) (i2 := 128) (by decide +kernel)
theorem rvCl_1 : rvClP 1 := rvCl_of (ps := [285, 287, 289]) (i1 := 277) (i2 := 126) (by decide +kernel)
theorem rvCl_2 : rvClP 2 := rvCl_of (ps := [515, 517, 519, 521, 523, 525, 527, 529, 531, 533, 535]) (i1 := 475) (i2 := 133) (by decide +kernel)
theorem rvCl_3 : rvClP 3 := rvCl_of (ps := [548, 550]) (i1 := 539) (i2 := 134) (by decide +kernel)
theorem rvCl_4 : rvClP 4 := rvCl_of (ps := [421, 423]) (i1 := 412) (i2 := 131) (by decide +kernel)
theorem rvCl_5 : rvClP 5 := rvCl_of (ps := [366, 368, 370, 372, 374, 376, 378, 380, 382, 384]) (i1 := 347) (i2 := 129) (by decide +kernel)
theorem rvCl_6 : rvClP 6 := rvCl_of (ps := [899, 901, 903, 905, 907]) (i1 := 889) (i2 := 144) (by decide +kernel)
theorem rvCl_7 : rvClP 7 := rvCl_of (ps := [303, 305, 307, 309]) (i1 := 294) (i2 := 127) (by decide +kernel)
theorem rvCl_8 : rvClP 8 := rvCl_of (ps := [400, 402, 404, 406, 408]) (i1 := 388) (i2 := 130) (by decide +kernel)
theorem rvCl_9 : rvClP 9 := rvCl_of (ps := [238, 240, 242, 244, 246, 248, 250, 252, 254, 256, 258, 260, 262, 264, 266]) (i1 := 154) (i2 := 121) (by decide +kernel)
theorem rvCl_10 : rvClP 10 := rvCl_of (ps := [458, 460, 462, 464, 466, 468, 470, 472]) (i1 := 427) (i2 := 132) (by decide +kernel)
theorem rvCl_11 : rvClP 11 := rvCl_of (ps := [568, 570, 572, 574, 576, 578, 580, 582, 584, 586, 588, 590, 592, 594, 596]) (i1 := 146) (i2 := 120) (by decide +kernel)
theorem rvCl_12 : rvClP 12 := rvCl_of (ps := [1490, 1492, 1494, 1496, 1498, 1500, 1502, 1504, 1506, 1508, 1510, 1512, 1514, 1516, 1518, 1520, 1522, 1524, 1526, 1528, 1530, 1532, 1534, 1536, 1538, 1540, 1542, 1544, 1546, 1548, 1550, 1552, 1554, 1556, 1558, 1560, 1562, 1564, 1566, 1568, 1570, 1572, 1574, 1576, 1578, 1580, 1582, 1584, 1586, 1588, 1590, 1592, 1594, 1596, 1598]) (i1 := 1401) (i2 := 135) (by decide +kernel)
theorem rvCl (ci : Nat) (h : ci < 13) : rvClP ci ∧ vwCl[ci]? = some (rvCn ci, rvFt ci, rvNf ci) ∧ ∀ a, a < rvNf ci → ∀ b, b < rvNf ci → a ≠ b → (rvFt ci a).2.1 ≠ (rvFt ci b).2.1 := by
  match ci, h with
  | 0, _ => exact ⟨rvCl_0, rfl, nmX0⟩
  | 1, _ => exact ⟨rvCl_1, rfl, nmX1⟩
  | 2, _ => exact ⟨rvCl_2, rfl, nmX2⟩
  | 3, _ => exact ⟨rvCl_3, rfl, nmX3⟩
  | 4, _ => exact ⟨rvCl_4, rfl, nmX4⟩
  | 5, _ => exact ⟨rvCl_5, rfl, nmX5⟩
  | 6, _ => exact ⟨rvCl_6, rfl, nmX6⟩
  | 7, _ => exact ⟨rvCl_7, rfl, nmX7⟩
  | 8, _ => exact ⟨rvCl_8, rfl, nmX8⟩
  | 9, _ => exact ⟨rvCl_9, rfl, nmX9⟩
  | 10, _ => exact ⟨rvCl_10, rfl, nmX10⟩
  | 11, _ => exact ⟨rvCl_11, rfl, nmX11⟩
  | 12, _ => exact ⟨rvCl_12, rfl, nmX12⟩
  | n + 13, h => exact absurd h (by omega)
theorem rvCl_none {ci : Nat} (h : ¬ ci < 13) : vwCl[ci]? = none := List.getElem?_eq_none (by simp; omega)
end
section
/-- what stands outside the run's own cells: links among nest mates, classes of rows, the one text, two statics -/
def rvText : String := "street tram person mark rides has hates man woman away gets loses moves leaves comes year or and not in minds marks number "
def rvKx (ex : Nat → Nat → Nat) (A : Nat → Prop) (U : State) (H : Heap) : Prop :=
  (∀ w ∈ rvNl, va_Nw w U) ∧ va_AO RX2 U ∧ va_AO RX6 U ∧ vk_R RX9 32 rvText (ex 3 0) U ∧ vk_S 1 [rvTxt.length] [rvTxt.map Int32.ofInt] (fun _ => ex 3 0) (fun _ => ex 4 0) A U H ∧
  va_Z "java/lang/String" "COMPACT_STRINGS" "Z" (.int 1) A U H ∧ va_Zq "jdk/internal/util/Preconditions" "SIOOBE_FORMATTER" "Ljava/util/function/BiFunction;" A U H
theorem rvNl_warm {w : Cond} (hw : w ∈ rvNl) {s U : State} (hW : s.WarmedH U.vm) (h : va_Nw w s) : va_Nw w U := by
  have h2 := (List.mem_filter.mp hw).2
  cases w <;> first | exact va_Nw.warmM hW h | cases h2
theorem rvNl_same {w : Cond} (hw : w ∈ rvNl) {u U : State} (hv : u.vm = U.vm) (h : va_Nw w u) : va_Nw w U := by
  have h2 := (List.mem_filter.mp hw).2
  cases w <;> first | exact va_Nw.same rfl hv h | cases h2
theorem rvKx_warm {ex : Nat → Nat → Nat} {A : Nat → Prop} {u U : State} {H : Heap} (hW : u.WarmedH U.vm) (h : rvKx ex A u H) : rvKx ex A U H := by
  obtain ⟨h1, h2, h3, h4, h5, h6, h7⟩ := h
  exact ⟨fun w hw => rvNl_warm hw hW (h1 w hw), va_AO.moved hW.alike h2, va_AO.moved hW.alike h3, vk_R.warm hW h4, vk_S.moved hW.alike h5, va_Z.moved hW.alike h6, va_Zq.moved hW.alike h7⟩
theorem rvKx_same {ex : Nat → Nat → Nat} {A : Nat → Prop} {u U : State} {H : Heap} (hv : u.vm = U.vm) (h : rvKx ex A u H) : rvKx ex A U H := by
  obtain ⟨h1, h2, h3, h4, h5, h6, h7⟩ := h
  have hal : u.vm.Alike U.vm := by rw [hv]; exact Vm.Alike.refl _
  exact ⟨fun w hw => rvNl_same hw hv (h1 w hw), va_AO.moved hal h2, va_AO.moved hal h3, vk_R.same hv.symm h4, vk_S.moved hal h5, va_Z.moved hal h6, va_Zq.moved hal h7⟩
theorem rvKx_kept {ex : Nat → Nat → Nat} {A : Nat → Prop} {U : State} {H H1 : Heap} (h : rvKx ex A U H) (hq : ∀ a : Nat, a < H.size → ¬ A a → H1[a]? = H[a]?) : rvKx ex A U H1 := by
  obtain ⟨h1, h2, h3, h4, h5, h6, h7⟩ := h
  exact ⟨h1, h2, h3, h4, vk_S.kept h5 hq, va_Z.kept h6 hq, va_Zq.kept h7 hq⟩
theorem rvKx_narrow {ex : Nat → Nat → Nat} {A B : Nat → Prop} {U : State} {H : Heap} (h : rvKx ex A U H) (hAB : ∀ q, B q → A q) : rvKx ex B U H := by
  obtain ⟨h1, h2, h3, h4, h5, h6, h7⟩ := h
  exact ⟨h1, h2, h3, h4, vk_S.narrow h5 hAB, va_Z.narrow h6 hAB, va_Zq.narrow h7 hAB⟩
def rvTys (cT : Nat → ClassId) : List (ClassId × FieldType) := [(cT 0, .int), (cT 1, .byte), (cT 2, .boolean), (cT 3, .long), (cT 4, .object RX2), (cT 5, .object RX6)]
/-- the script, and what is known of its numbers -/
def rvSx (ex : Nat → Nat → Nat) (A : Nat → Prop) (s : State) (sc : List (Int × Int)) : Prop :=
  sc = [] ∨ ∃ xs : Nat → Int32, va_X (ex 5 0) sc.length xs s s.heap ∧ ex 5 0 < s.heap.size ∧ ¬ A (ex 5 0) ∧ ∀ (j : Nat) (a : Int × Int), sc[j]? = some a → a.1 ≤ (xs j).toInt ∧ (xs j).toInt ≤ a.2
def rvCx (p : Program) (s : State) (m : MethodId) (args : Array Value) (meth : Method) (c : Code) (cc : ByteArray) (own : String) (mL : Nat) (D : va_G) (cT : Nat → ClassId) (ex : Nat → Nat → Nat) (A : Nat → Prop) (ini : Bool) (sc : List (Int × Int)) : Prop :=
  p.tables.exec = Jvm.exec ∧ c.code = cc ∧ c.maxLocals = mL ∧ s.vm.findClass own = some m.cls ∧ (∀ w ∈ rvWl, w.before args s = true) ∧ va_K D vwCl (rvTys cT) s ∧ (∀ q, s.heap.size ≤ q → A q) ∧ rvKx ex A s s.heap ∧ (ini = true → meth.name = "<init>") ∧ rvSx ex A s sc
/-- from every state that a run's state tells of, the machine comes to Q -/
def rvG (p : Program) (l : Launch) (e : Env) (R : Room) (s : State) (m : MethodId) (args : Array Value) (below : List Frame) (meth : Method) (c : Code) (Q : State → Prop) (D : va_G) (cT : Nat → ClassId) (ex : Nat → Nat → Nat) (A : Nat → Prop) (mL : Nat) (o : rvS) : Prop :=
  ∀ (ws : va_W) (H : Heap) (locs : List Loc) (ls : Array Slot) (stk : List Value), rvWo cT (rvAd ws) ex o.2.2.2.1 ws → rvLo (rvAd ws) ex mL o.2.1 ls → rvRs (rvAd ws) ex o.2.2.1 stk → va_P D vwCl ws H → va_D A ws → va_S A s.heap H locs →
    W p l e R s m args below meth c H locs o.2.2.2.2.1 o.2.2.2.2.2 Q (F0 m o.1 ls stk)
/-- an instruction's length -/
def rvSz (i : Instr) (len : Nat) : Nat := match i with
  | .bipush _ => 2
  | .sipush _ => 3
  | .ldc _ => 2
  | .ldc2_w _ => 3
  | .iload _ => 2
  | .lload _ => 2
  | .aload _ => 2
  | .istore _ => 2
  | .lstore _ => 2
  | .astore _ => 2
  | .iinc _ _ => 3
  | .if_icmp _ _ => 3
  | .ifCond _ _ => 3
  | .ifnull _ => 3
  | .ifnonnull _ => 3
  | .goto _ => 3
  | .tableswitch _ _ _ _ => len
  | .getfield _ => 3
  | .putfield _ => 3
  | .getstatic _ => 3
  | .new _ => 3
  | .newarray _ => 2
  | .anewarray _ => 3
  | .invokevirtual _ => 3
  | .invokespecial _ => 3
  | .invokestatic _ => 3
  | _ => 1
/-- what an instruction that calls nothing links to is what its numbers say -/
def rvAux (own : String) (ini : Bool) (i : Instr) (a1 a2 wi : Nat) : Bool := match i with
  | .getfield idx => bif Nat.beq a1 100 then (bif Nat.beq a2 0 then rvW wi (.fieldLink own idx "java/lang/String" "value" "[B") else rvW wi (.fieldLink own idx "java/lang/String" "coder" "B"))
    else Nat.blt a1 13 && (Nat.blt a2 (rvNf a1) && rvW wi (.fieldLink own idx (rvFt a1 a2).1 (rvFt a1 a2).2.1 (rvFt a1 a2).2.2.1))
  | .putfield idx => Nat.blt a1 13 && (Nat.blt a2 (rvNf a1) && (rvW wi (.fieldLink own idx (rvFt a1 a2).1 (rvFt a1 a2).2.1 (rvFt a1 a2).2.2.1) && (!(rvFt a1 a2).2.2.2 || (ini && decide ((rvFt a1 a2).1 = own)))))
  | .getstatic idx => bif Nat.beq a1 0 then rvW wi (.fieldLink own idx "java/lang/String" "COMPACT_STRINGS" "Z") else rvW wi (.fieldLink own idx "jdk/internal/util/Preconditions" "SIOOBE_FORMATTER" "Ljava/util/function/BiFunction;")
  | .new idx => Nat.blt a1 13 && rvW wi (.classLink own idx (rvCn a1))
  | .newarray t => rvW wi (.arrayClass (newarray.typeOf t)) && (match t with
    | .int => Nat.beq a1 0
    | .byte => Nat.beq a1 1
    | .boolean => Nat.beq a1 2
    | .long => Nat.beq a1 3
    | _ => false)
  | .anewarray idx => bif Nat.beq a1 4 then rvW wi (.classLink own idx RX2) else Nat.beq a1 5 && rvW wi (.classLink own idx RX6)
  | .ldc2_w idx => (match lw_tbl[wi]? with
    | some (.constantLong ow k v) => decide (ow = own) && (Nat.beq k idx && goodWord (.constantLong ow k v))
    | _ => false)
  | .ldc idx => decide (own = RX9) && Nat.beq idx 32
  | _ => true
theorem rvC_eq {a b : Int × Int} {x y : Int32} {r : Bool} (h : rvCmp .eq a b = some r) (h1 : a.1 ≤ x.toInt) (h2 : x.toInt ≤ a.2) (h3 : b.1 ≤ y.toInt) (h4 : y.toInt ≤ b.2) : (x = y) ↔ r = true := rvEq_ok h h1 h2 h3 h4
theorem rvC_ne {a b : Int × Int} {x y : Int32} {r : Bool} (h : rvCmp .ne a b = some r) (h1 : a.1 ≤ x.toInt) (h2 : x.toInt ≤ a.2) (h3 : b.1 ≤ y.toInt) (h4 : y.toInt ≤ b.2) : (¬ x = y) ↔ r = true := by
  have g := rvEq_ok (rvNo_ok h) h1 h2 h3 h4
  rw [g]
  cases r <;> simp
theorem rvC_lt {a b : Int × Int} {x y : Int32} {r : Bool} (h : rvCmp .lt a b = some r) (h1 : a.1 ≤ x.toInt) (h2 : x.toInt ≤ a.2) (h3 : b.1 ≤ y.toInt) (h4 : y.toInt ≤ b.2) : (x < y) ↔ r = true := rvLt_ok h h1 h2 h3 h4
theorem rvC_ge {a b : Int × Int} {x y : Int32} {r : Bool} (h : rvCmp .ge a b = some r) (h1 : a.1 ≤ x.toInt) (h2 : x.toInt ≤ a.2) (h3 : b.1 ≤ y.toInt) (h4 : y.toInt ≤ b.2) : (y ≤ x) ↔ r = true := by
  have g := rvLt_ok (rvNo_ok h) h1 h2 h3 h4
  rw [Int32.lt_iff_toInt_lt] at g
  rw [Int32.le_iff_toInt_le, ← Int.not_lt, g]
  cases r <;> simp
theorem rvC_gt {a b : Int × Int} {x y : Int32} {r : Bool} (h : rvCmp .gt a b = some r) (h1 : a.1 ≤ x.toInt) (h2 : x.toInt ≤ a.2) (h3 : b.1 ≤ y.toInt) (h4 : y.toInt ≤ b.2) : (y < x) ↔ r = true := rvLt_ok h h3 h4 h1 h2
theorem rvC_le {a b : Int × Int} {x y : Int32} {r : Bool} (h : rvCmp .le a b = some r) (h1 : a.1 ≤ x.toInt) (h2 : x.toInt ≤ a.2) (h3 : b.1 ≤ y.toInt) (h4 : y.toInt ≤ b.2) : (x ≤ y) ↔ r = true := by
  have g := rvLt_ok (rvNo_ok h) h3 h4 h1 h2
  rw [Int32.lt_iff_toInt_lt] at g
  rw [Int32.le_iff_toInt_le, ← Int.not_lt, g]
  cases r <;> simp
section RVS
variable {p : Program} {l : Launch} {e : Env} {R : Room} {s : State} {m : MethodId} {args : Array Value} {below : List Frame} {meth : Method} {c : Code} {Q : State → Prop} {cc : ByteArray} {own : String} {mL : Nat} {D : va_G} {cT : Nat → ClassId} {ex : Nat → Nat → Nat} {A : Nat → Prop} {sc : List (Int × Int)} {ini : Bool}
set_option maxHeartbeats 4000000 in
set_option maxRecDepth 100000 in
theorem rs_iconst (C : rvCx p s m args meth c cc own mL D cT ex A ini sc) {BC BS a1 a2 a3 wi pc kc ks : Nat} {n : Int} {al st : List rvV} {aw : rvH} {o : rvS} (hd : decode cc pc = .ok (.iconst n, 1)) (hk : rvAux own ini (.iconst n) a1 a2 wi = true) (hBC : BC ≤ R.cells) (hBS : BS ≤ R.slots)
    (h : rvStep rvTy rvNf rvTxt sc BC BS mL (.iconst n) a1 a2 a3 pc al st aw kc ks = some o) (k : rvG p l e R s m args below meth c Q D cT ex A mL o) : rvG p l e R s m args below meth c Q D cT ex A mL (pc, al, st, aw, kc, ks) := by
  obtain ⟨hx, hb, hml, hown, hts, hK, hA, hX, hini, hsc⟩ := C
  intro ws H locs ls stk hw hl hs hP hD hS
  dsimp only at hw hl hs ⊢
  obtain ⟨hc, rfl⟩ := rv_bif h
  exact lv_iconst hx hb hd rfl (k ws H locs ls _ hw hl ⟨rvR_K (rv_ofInt hc), hs⟩ hP hD hS)
set_option maxHeartbeats 4000000 in
set_option maxRecDepth 100000 in
theorem rs_bipush (C : rvCx p s m args meth c cc own mL D cT ex A ini sc) {BC BS a1 a2 a3 wi pc kc ks : Nat} {n : Int} {al st : List rvV} {aw : rvH} {o : rvS} (hd : decode cc pc = .ok (.bipush n, 2)) (hk : rvAux own ini (.bipush n) a1 a2 wi = true) (hBC : BC ≤ R.cells) (hBS : BS ≤ R.slots)
    (h : rvStep rvTy rvNf rvTxt sc BC BS mL (.bipush n) a1 a2 a3 pc al st aw kc ks = some o) (k : rvG p l e R s m args below meth c Q D cT ex A mL o) : rvG p l e R s m args below meth c Q D cT ex A mL (pc, al, st, aw, kc, ks) := by
  obtain ⟨hx, hb, hml, hown, hts, hK, hA, hX, hini, hsc⟩ := C
  intro ws H locs ls stk hw hl hs hP hD hS
  dsimp only at hw hl hs ⊢
  obtain ⟨hc, rfl⟩ := rv_bif h
  exact lv_bipush hx hb hd rfl (k ws H locs ls _ hw hl ⟨rvR_K (rv_ofInt8 hc), hs⟩ hP hD hS)
set_option maxHeartbeats 4000000 in
set_option maxRecDepth 100000 in
theorem rs_sipush (C : rvCx p s m args meth c cc own mL D cT ex A ini sc) {BC BS a1 a2 a3 wi pc kc ks : Nat} {n : Int} {al st : List rvV} {aw : rvH} {o : rvS} (hd : decode cc pc = .ok (.sipush n, 3)) (hk : rvAux own ini (.sipush n) a1 a2 wi = true) (hBC : BC ≤ R.cells) (hBS : BS ≤ R.slots)
    (h : rvStep rvTy rvNf rvTxt sc BC BS mL (.sipush n) a1 a2 a3 pc al st aw kc ks = some o) (k : rvG p l e R s m args below meth c Q D cT ex A mL o) : rvG p l e R s m args below meth c Q D cT ex A mL (pc, al, st, aw, kc, ks) := by
  obtain ⟨hx, hb, hml, hown, hts, hK, hA, hX, hini, hsc⟩ := C
  intro ws H locs ls stk hw hl hs hP hD hS
  dsimp only at hw hl hs ⊢
  obtain ⟨hc, rfl⟩ := rv_bif h
  exact lv_sipush hx hb hd rfl (k ws H locs ls _ hw hl ⟨rvR_K (rv_ofInt16 hc), hs⟩ hP hD hS)
set_option maxHeartbeats 4000000 in
set_option maxRecDepth 100000 in
theorem rs_lconst (C : rvCx p s m args meth c cc own mL D cT ex A ini sc) {BC BS a1 a2 a3 wi pc kc ks : Nat} {n : Fin 2} {al st : List rvV} {aw : rvH} {o : rvS} (hd : decode cc pc = .ok (.lconst n, 1)) (hk : rvAux own ini (.lconst n) a1 a2 wi = true) (hBC : BC ≤ R.cells) (hBS : BS ≤ R.slots)
    (h : rvStep rvTy rvNf rvTxt sc BC BS mL (.lconst n) a1 a2 a3 pc al st aw kc ks = some o) (k : rvG p l e R s m args below meth c Q D cT ex A mL o) : rvG p l e R s m args below meth c Q D cT ex A mL (pc, al, st, aw, kc, ks) := by
  obtain ⟨hx, hb, hml, hown, hts, hK, hA, hX, hini, hsc⟩ := C
  intro ws H locs ls stk hw hl hs hP hD hS
  dsimp only at hw hl hs ⊢
  cases h
  exact lv_lconst hx hb hd rfl (k ws H locs ls _ hw hl ⟨⟨_, rfl⟩, hs⟩ hP hD hS)
set_option maxHeartbeats 4000000 in
set_option maxRecDepth 100000 in
theorem rs_ldc2_w (C : rvCx p s m args meth c cc own mL D cT ex A ini sc) {BC BS a1 a2 a3 wi pc kc ks n : Nat} {al st : List rvV} {aw : rvH} {o : rvS} (hd : decode cc pc = .ok (.ldc2_w n, 3)) (hk : rvAux own ini (.ldc2_w n) a1 a2 wi = true) (hBC : BC ≤ R.cells) (hBS : BS ≤ R.slots)
    (h : rvStep rvTy rvNf rvTxt sc BC BS mL (.ldc2_w n) a1 a2 a3 pc al st aw kc ks = some o) (k : rvG p l e R s m args below meth c Q D cT ex A mL o) : rvG p l e R s m args below meth c Q D cT ex A mL (pc, al, st, aw, kc, ks) := by
  obtain ⟨hx, hb, hml, hown, hts, hK, hA, hX, hini, hsc⟩ := C
  intro ws H locs ls stk hw hl hs hP hD hS
  dsimp only at hw hl hs ⊢
  cases h
  have hk : (match lw_tbl[wi]? with
    | some (.constantLong ow k v) => decide (ow = own) && (Nat.beq k n && goodWord (.constantLong ow k v))
    | _ => false) = true := hk
  split at hk
  · rename_i ow k0 v he
    obtain ⟨g1, g2⟩ := rv_and hk
    obtain ⟨g2, g3⟩ := rv_and g2
    have e1 := of_decide_eq_true g1
    have e2 := rv_beq g2
    subst e1; subst e2
    exact lv_ldc2 hx hb hown (hts _ (List.mem_filter.mpr ⟨List.mem_of_getElem? he, g3⟩)) hd (k ws H locs ls _ hw hl ⟨⟨_, rfl⟩, hs⟩ hP hD hS)
  · cases hk
set_option maxHeartbeats 4000000 in
set_option maxRecDepth 100000 in
theorem rs_ldc (C : rvCx p s m args meth c cc own mL D cT ex A ini sc) {BC BS a1 a2 a3 wi pc kc ks n : Nat} {al st : List rvV} {aw : rvH} {o : rvS} (hd : decode cc pc = .ok (.ldc n, 2)) (hk : rvAux own ini (.ldc n) a1 a2 wi = true) (hBC : BC ≤ R.cells) (hBS : BS ≤ R.slots)
    (h : rvStep rvTy rvNf rvTxt sc BC BS mL (.ldc n) a1 a2 a3 pc al st aw kc ks = some o) (k : rvG p l e R s m args below meth c Q D cT ex A mL o) : rvG p l e R s m args below meth c Q D cT ex A mL (pc, al, st, aw, kc, ks) := by
  obtain ⟨hx, hb, hml, hown, hts, hK, hA, hX, hini, hsc⟩ := C
  intro ws H locs ls stk hw hl hs hP hD hS
  dsimp only at hw hl hs ⊢
  cases h
  obtain ⟨g1, g2⟩ := rv_and hk
  have e1 := of_decide_eq_true g1
  have e2 := rv_beq g2
  subst e1; subst e2
  exact va_ldcS hx hb hown hX.2.2.2.1 hd (k ws H locs ls _ hw hl ⟨rfl, hs⟩ hP hD hS)
set_option maxHeartbeats 4000000 in
set_option maxRecDepth 100000 in
theorem rs_aconst_null (C : rvCx p s m args meth c cc own mL D cT ex A ini sc) {BC BS a1 a2 a3 wi pc kc ks : Nat} {al st : List rvV} {aw : rvH} {o : rvS} (hd : decode cc pc = .ok (.aconst_null, 1)) (hk : rvAux own ini (.aconst_null) a1 a2 wi = true) (hBC : BC ≤ R.cells) (hBS : BS ≤ R.slots)
    (h : rvStep rvTy rvNf rvTxt sc BC BS mL (.aconst_null) a1 a2 a3 pc al st aw kc ks = some o) (k : rvG p l e R s m args below meth c Q D cT ex A mL o) : rvG p l e R s m args below meth c Q D cT ex A mL (pc, al, st, aw, kc, ks) := by
  obtain ⟨hx, hb, hml, hown, hts, hK, hA, hX, hini, hsc⟩ := C
  intro ws H locs ls stk hw hl hs hP hD hS
  dsimp only at hw hl hs ⊢
  cases h
  exact lv_null hx hb hd (k ws H locs ls _ hw hl ⟨rfl, hs⟩ hP hD hS)
set_option maxHeartbeats 4000000 in
set_option maxRecDepth 100000 in
theorem rs_iload (C : rvCx p s m args meth c cc own mL D cT ex A ini sc) {BC BS a1 a2 a3 wi pc kc ks n : Nat} {al st : List rvV} {aw : rvH} {o : rvS} (hd : decode cc pc = .ok (.iload n, 2)) (hk : rvAux own ini (.iload n) a1 a2 wi = true) (hBC : BC ≤ R.cells) (hBS : BS ≤ R.slots)
    (h : rvStep rvTy rvNf rvTxt sc BC BS mL (.iload n) a1 a2 a3 pc al st aw kc ks = some o) (k : rvG p l e R s m args below meth c Q D cT ex A mL o) : rvG p l e R s m args below meth c Q D cT ex A mL (pc, al, st, aw, kc, ks) := by
  obtain ⟨hx, hb, hml, hown, hts, hK, hA, hX, hini, hsc⟩ := C
  intro ws H locs ls stk hw hl hs hP hD hS
  dsimp only at hw hl hs ⊢
  simp only [rvStep] at h
  split at h
  · rename_i a ha
    cases h
    obtain ⟨x, hx1, n1, rfl, p1, q1⟩ := rvLo_get hl ha (fun z q => by cases q)
    exact lv_iload hx hb hd hx1 (k ws H locs ls _ hw hl ⟨⟨n1, rfl, p1, q1⟩, hs⟩ hP hD hS)
  · cases h
set_option maxHeartbeats 4000000 in
set_option maxRecDepth 100000 in
theorem rs_iload_n (C : rvCx p s m args meth c cc own mL D cT ex A ini sc) {BC BS a1 a2 a3 wi pc kc ks : Nat} {n : Fin 4} {al st : List rvV} {aw : rvH} {o : rvS} (hd : decode cc pc = .ok (.iload_n n, 1)) (hk : rvAux own ini (.iload_n n) a1 a2 wi = true) (hBC : BC ≤ R.cells) (hBS : BS ≤ R.slots)
    (h : rvStep rvTy rvNf rvTxt sc BC BS mL (.iload_n n) a1 a2 a3 pc al st aw kc ks = some o) (k : rvG p l e R s m args below meth c Q D cT ex A mL o) : rvG p l e R s m args below meth c Q D cT ex A mL (pc, al, st, aw, kc, ks) := by
  obtain ⟨hx, hb, hml, hown, hts, hK, hA, hX, hini, hsc⟩ := C
  intro ws H locs ls stk hw hl hs hP hD hS
  dsimp only at hw hl hs ⊢
  simp only [rvStep] at h
  split at h
  · rename_i a ha
    cases h
    obtain ⟨x, hx1, n1, rfl, p1, q1⟩ := rvLo_get hl ha (fun z q => by cases q)
    exact lv_iload_n hx hb hd rfl hx1 (k ws H locs ls _ hw hl ⟨⟨n1, rfl, p1, q1⟩, hs⟩ hP hD hS)
  · cases h
set_option maxHeartbeats 4000000 in
set_option maxRecDepth 100000 in
theorem rs_lload (C : rvCx p s m args meth c cc own mL D cT ex A ini sc) {BC BS a1 a2 a3 wi pc kc ks n : Nat} {al st : List rvV} {aw : rvH} {o : rvS} (hd : decode cc pc = .ok (.lload n, 2)) (hk : rvAux own ini (.lload n) a1 a2 wi = true) (hBC : BC ≤ R.cells) (hBS : BS ≤ R.slots)
    (h : rvStep rvTy rvNf rvTxt sc BC BS mL (.lload n) a1 a2 a3 pc al st aw kc ks = some o) (k : rvG p l e R s m args below meth c Q D cT ex A mL o) : rvG p l e R s m args below meth c Q D cT ex A mL (pc, al, st, aw, kc, ks) := by
  obtain ⟨hx, hb, hml, hown, hts, hK, hA, hX, hini, hsc⟩ := C
  intro ws H locs ls stk hw hl hs hP hD hS
  dsimp only at hw hl hs ⊢
  simp only [rvStep] at h
  split at h
  · rename_i z ha
    cases h
    obtain ⟨x, hx1, n1, rfl⟩ := rvLo_get hl ha (fun z q => by cases q)
    exact lv_lload hx hb hd hx1 (k ws H locs ls _ hw hl ⟨⟨n1, rfl⟩, hs⟩ hP hD hS)
  · cases h
set_option maxHeartbeats 4000000 in
set_option maxRecDepth 100000 in
theorem rs_lload_n (C : rvCx p s m args meth c cc own mL D cT ex A ini sc) {BC BS a1 a2 a3 wi pc kc ks : Nat} {n : Fin 4} {al st : List rvV} {aw : rvH} {o : rvS} (hd : decode cc pc = .ok (.lload_n n, 1)) (hk : rvAux own ini (.lload_n n) a1 a2 wi = true) (hBC : BC ≤ R.cells) (hBS : BS ≤ R.slots)
    (h : rvStep rvTy rvNf rvTxt sc BC BS mL (.lload_n n) a1 a2 a3 pc al st aw kc ks = some o) (k : rvG p l e R s m args below meth c Q D cT ex A mL o) : rvG p l e R s m args below meth c Q D cT ex A mL (pc, al, st, aw, kc, ks) := by
  obtain ⟨hx, hb, hml, hown, hts, hK, hA, hX, hini, hsc⟩ := C
  intro ws H locs ls stk hw hl hs hP hD hS
  dsimp only at hw hl hs ⊢
  simp only [rvStep] at h
  split at h
  · rename_i z ha
    cases h
    obtain ⟨x, hx1, n1, rfl⟩ := rvLo_get hl ha (fun z q => by cases q)
    exact lv_lload_n hx hb hd rfl hx1 (k ws H locs ls _ hw hl ⟨⟨n1, rfl⟩, hs⟩ hP hD hS)
  · cases h
set_option maxHeartbeats 4000000 in
set_option maxRecDepth 100000 in
theorem rs_aload (C : rvCx p s m args meth c cc own mL D cT ex A ini sc) {BC BS a1 a2 a3 wi pc kc ks n : Nat} {al st : List rvV} {aw : rvH} {o : rvS} (hd : decode cc pc = .ok (.aload n, 2)) (hk : rvAux own ini (.aload n) a1 a2 wi = true) (hBC : BC ≤ R.cells) (hBS : BS ≤ R.slots)
    (h : rvStep rvTy rvNf rvTxt sc BC BS mL (.aload n) a1 a2 a3 pc al st aw kc ks = some o) (k : rvG p l e R s m args below meth c Q D cT ex A mL o) : rvG p l e R s m args below meth c Q D cT ex A mL (pc, al, st, aw, kc, ks) := by
  obtain ⟨hx, hb, hml, hown, hts, hK, hA, hX, hini, hsc⟩ := C
  intro ws H locs ls stk hw hl hs hP hD hS
  dsimp only at hw hl hs ⊢
  simp only [rvStep] at h
  split at h
  · rename_i v hv
    obtain ⟨hc, rfl⟩ := rv_bif h
    obtain ⟨x, hx1, hx2⟩ := rvLo_get hl hv (fun z q => by subst q; cases hc)
    rcases rvR_A hc hx2 with rfl | ⟨q, rfl⟩
    · exact lv_aloadN hx hb hd hx1 (k ws H locs ls _ hw hl ⟨hx2, hs⟩ hP hD hS)
    · exact lv_aload hx hb hd hx1 (k ws H locs ls _ hw hl ⟨hx2, hs⟩ hP hD hS)
  · cases h
set_option maxHeartbeats 4000000 in
set_option maxRecDepth 100000 in
theorem rs_aload_n (C : rvCx p s m args meth c cc own mL D cT ex A ini sc) {BC BS a1 a2 a3 wi pc kc ks : Nat} {n : Fin 4} {al st : List rvV} {aw : rvH} {o : rvS} (hd : decode cc pc = .ok (.aload_n n, 1)) (hk : rvAux own ini (.aload_n n) a1 a2 wi = true) (hBC : BC ≤ R.cells) (hBS : BS ≤ R.slots)
    (h : rvStep rvTy rvNf rvTxt sc BC BS mL (.aload_n n) a1 a2 a3 pc al st aw kc ks = some o) (k : rvG p l e R s m args below meth c Q D cT ex A mL o) : rvG p l e R s m args below meth c Q D cT ex A mL (pc, al, st, aw, kc, ks) := by
  obtain ⟨hx, hb, hml, hown, hts, hK, hA, hX, hini, hsc⟩ := C
  intro ws H locs ls stk hw hl hs hP hD hS
  dsimp only at hw hl hs ⊢
  simp only [rvStep] at h
  split at h
  · rename_i v hv
    obtain ⟨hc, rfl⟩ := rv_bif h
    obtain ⟨x, hx1, hx2⟩ := rvLo_get hl hv (fun z q => by subst q; cases hc)
    rcases rvR_A hc hx2 with rfl | ⟨q, rfl⟩
    · exact lv_aload_nN hx hb hd rfl hx1 (k ws H locs ls _ hw hl ⟨hx2, hs⟩ hP hD hS)
    · exact lv_aload_n hx hb hd rfl hx1 (k ws H locs ls _ hw hl ⟨hx2, hs⟩ hP hD hS)
  · cases h
set_option maxHeartbeats 4000000 in
set_option maxRecDepth 100000 in
theorem rs_istore (C : rvCx p s m args meth c cc own mL D cT ex A ini sc) {BC BS a1 a2 a3 wi pc kc ks n : Nat} {al st : List rvV} {aw : rvH} {o : rvS} (hd : decode cc pc = .ok (.istore n, 2)) (hk : rvAux own ini (.istore n) a1 a2 wi = true) (hBC : BC ≤ R.cells) (hBS : BS ≤ R.slots)
    (h : rvStep rvTy rvNf rvTxt sc BC BS mL (.istore n) a1 a2 a3 pc al st aw kc ks = some o) (k : rvG p l e R s m args below meth c Q D cT ex A mL o) : rvG p l e R s m args below meth c Q D cT ex A mL (pc, al, st, aw, kc, ks) := by
  obtain ⟨hx, hb, hml, hown, hts, hK, hA, hX, hini, hsc⟩ := C
  intro ws H locs ls stk hw hl hs hP hD hS
  dsimp only at hw hl hs ⊢
  simp only [rvStep] at h
  split at h
  · rename_i a st
    obtain ⟨hc, rfl⟩ := rv_bif h
    obtain ⟨x, stk1, rfl, ⟨n1, rfl, p1, q1⟩, hs1⟩ := rvRs_cons hs
    obtain ⟨l0, lv, hv1, hv2⟩ := hl
    exact lv_istore hx hb hd hv1 (rv_blt hc) rfl (fun ls' h' => k ws H locs ls' _ hw (rvLo_set1 l0 (rv_blt hc) hv2 ⟨n1, rfl, p1, q1⟩ h') hs1 hP hD hS)
  · cases h
set_option maxHeartbeats 4000000 in
set_option maxRecDepth 100000 in
theorem rs_istore_n (C : rvCx p s m args meth c cc own mL D cT ex A ini sc) {BC BS a1 a2 a3 wi pc kc ks : Nat} {n : Fin 4} {al st : List rvV} {aw : rvH} {o : rvS} (hd : decode cc pc = .ok (.istore_n n, 1)) (hk : rvAux own ini (.istore_n n) a1 a2 wi = true) (hBC : BC ≤ R.cells) (hBS : BS ≤ R.slots)
    (h : rvStep rvTy rvNf rvTxt sc BC BS mL (.istore_n n) a1 a2 a3 pc al st aw kc ks = some o) (k : rvG p l e R s m args below meth c Q D cT ex A mL o) : rvG p l e R s m args below meth c Q D cT ex A mL (pc, al, st, aw, kc, ks) := by
  obtain ⟨hx, hb, hml, hown, hts, hK, hA, hX, hini, hsc⟩ := C
  intro ws H locs ls stk hw hl hs hP hD hS
  dsimp only at hw hl hs ⊢
  simp only [rvStep] at h
  split at h
  · rename_i a st
    obtain ⟨hc, rfl⟩ := rv_bif h
    obtain ⟨x, stk1, rfl, ⟨n1, rfl, p1, q1⟩, hs1⟩ := rvRs_cons hs
    obtain ⟨l0, lv, hv1, hv2⟩ := hl
    exact lv_istore_n hx hb hd rfl hv1 (rv_blt hc) rfl (fun ls' h' => k ws H locs ls' _ hw (rvLo_set1 l0 (rv_blt hc) hv2 ⟨n1, rfl, p1, q1⟩ h') hs1 hP hD hS)
  · cases h
set_option maxHeartbeats 4000000 in
set_option maxRecDepth 100000 in
theorem rs_lstore (C : rvCx p s m args meth c cc own mL D cT ex A ini sc) {BC BS a1 a2 a3 wi pc kc ks n : Nat} {al st : List rvV} {aw : rvH} {o : rvS} (hd : decode cc pc = .ok (.lstore n, 2)) (hk : rvAux own ini (.lstore n) a1 a2 wi = true) (hBC : BC ≤ R.cells) (hBS : BS ≤ R.slots)
    (h : rvStep rvTy rvNf rvTxt sc BC BS mL (.lstore n) a1 a2 a3 pc al st aw kc ks = some o) (k : rvG p l e R s m args below meth c Q D cT ex A mL o) : rvG p l e R s m args below meth c Q D cT ex A mL (pc, al, st, aw, kc, ks) := by
  obtain ⟨hx, hb, hml, hown, hts, hK, hA, hX, hini, hsc⟩ := C
  intro ws H locs ls stk hw hl hs hP hD hS
  dsimp only at hw hl hs ⊢
  simp only [rvStep] at h
  split at h
  · rename_i z st
    obtain ⟨hc, rfl⟩ := rv_bif h
    obtain ⟨x, stk1, rfl, ⟨n1, rfl⟩, hs1⟩ := rvRs_cons hs
    obtain ⟨l0, lv, hv1, hv2⟩ := hl
    exact lv_lstore hx hb hd hv1 (rv_blt hc) rfl (fun ls' h' => k ws H locs ls' _ hw (rvLo_set2 (v := rvL) l0 (rv_blt hc) hv2 ⟨n1, rfl⟩ h') hs1 hP hD hS)
  · cases h
set_option maxHeartbeats 4000000 in
set_option maxRecDepth 100000 in
theorem rs_lstore_n (C : rvCx p s m args meth c cc own mL D cT ex A ini sc) {BC BS a1 a2 a3 wi pc kc ks : Nat} {n : Fin 4} {al st : List rvV} {aw : rvH} {o : rvS} (hd : decode cc pc = .ok (.lstore_n n, 1)) (hk : rvAux own ini (.lstore_n n) a1 a2 wi = true) (hBC : BC ≤ R.cells) (hBS : BS ≤ R.slots)
    (h : rvStep rvTy rvNf rvTxt sc BC BS mL (.lstore_n n) a1 a2 a3 pc al st aw kc ks = some o) (k : rvG p l e R s m args below meth c Q D cT ex A mL o) : rvG p l e R s m args below meth c Q D cT ex A mL (pc, al, st, aw, kc, ks) := by
  obtain ⟨hx, hb, hml, hown, hts, hK, hA, hX, hini, hsc⟩ := C
  intro ws H locs ls stk hw hl hs hP hD hS
  dsimp only at hw hl hs ⊢
  simp only [rvStep] at h
  split at h
  · rename_i z st
    obtain ⟨hc, rfl⟩ := rv_bif h
    obtain ⟨x, stk1, rfl, ⟨n1, rfl⟩, hs1⟩ := rvRs_cons hs
    obtain ⟨l0, lv, hv1, hv2⟩ := hl
    exact lv_lstore_n hx hb hd rfl hv1 (rv_blt hc) rfl (fun ls' h' => k ws H locs ls' _ hw (rvLo_set2 (v := rvL) l0 (rv_blt hc) hv2 ⟨n1, rfl⟩ h') hs1 hP hD hS)
  · cases h
set_option maxHeartbeats 4000000 in
set_option maxRecDepth 100000 in
theorem rs_astore (C : rvCx p s m args meth c cc own mL D cT ex A ini sc) {BC BS a1 a2 a3 wi pc kc ks n : Nat} {al st : List rvV} {aw : rvH} {o : rvS} (hd : decode cc pc = .ok (.astore n, 2)) (hk : rvAux own ini (.astore n) a1 a2 wi = true) (hBC : BC ≤ R.cells) (hBS : BS ≤ R.slots)
    (h : rvStep rvTy rvNf rvTxt sc BC BS mL (.astore n) a1 a2 a3 pc al st aw kc ks = some o) (k : rvG p l e R s m args below meth c Q D cT ex A mL o) : rvG p l e R s m args below meth c Q D cT ex A mL (pc, al, st, aw, kc, ks) := by
  obtain ⟨hx, hb, hml, hown, hts, hK, hA, hX, hini, hsc⟩ := C
  intro ws H locs ls stk hw hl hs hP hD hS
  dsimp only at hw hl hs ⊢
  simp only [rvStep] at h
  split at h
  · rename_i v st
    obtain ⟨hc, rfl⟩ := rv_bif h
    obtain ⟨hc1, hc2⟩ := rv_and hc
    obtain ⟨x, stk1, rfl, hx2, hs1⟩ := rvRs_cons hs
    obtain ⟨l0, lv, hv1, hv2⟩ := hl
    rcases rvR_A hc1 hx2 with rfl | ⟨q, rfl⟩
    · exact lv_astoreN hx hb hd hv1 (rv_blt hc2) rfl (fun ls' h' => k ws H locs ls' _ hw (rvLo_set1 l0 (rv_blt hc2) hv2 hx2 h') hs1 hP hD hS)
    · exact lv_astore hx hb hd hv1 (rv_blt hc2) rfl (fun ls' h' => k ws H locs ls' _ hw (rvLo_set1 l0 (rv_blt hc2) hv2 hx2 h') hs1 hP hD hS)
  · cases h
set_option maxHeartbeats 4000000 in
set_option maxRecDepth 100000 in
theorem rs_astore_n (C : rvCx p s m args meth c cc own mL D cT ex A ini sc) {BC BS a1 a2 a3 wi pc kc ks : Nat} {n : Fin 4} {al st : List rvV} {aw : rvH} {o : rvS} (hd : decode cc pc = .ok (.astore_n n, 1)) (hk : rvAux own ini (.astore_n n) a1 a2 wi = true) (hBC : BC ≤ R.cells) (hBS : BS ≤ R.slots)
    (h : rvStep rvTy rvNf rvTxt sc BC BS mL (.astore_n n) a1 a2 a3 pc al st aw kc ks = some o) (k : rvG p l e R s m args below meth c Q D cT ex A mL o) : rvG p l e R s m args below meth c Q D cT ex A mL (pc, al, st, aw, kc, ks) := by
  obtain ⟨hx, hb, hml, hown, hts, hK, hA, hX, hini, hsc⟩ := C
  intro ws H locs ls stk hw hl hs hP hD hS
  dsimp only at hw hl hs ⊢
  simp only [rvStep] at h
  split at h
  · rename_i v st
    obtain ⟨hc, rfl⟩ := rv_bif h
    obtain ⟨hc1, hc2⟩ := rv_and hc
    obtain ⟨x, stk1, rfl, hx2, hs1⟩ := rvRs_cons hs
    obtain ⟨l0, lv, hv1, hv2⟩ := hl
    rcases rvR_A hc1 hx2 with rfl | ⟨q, rfl⟩
    · exact lv_astore_nN hx hb hd rfl hv1 (rv_blt hc2) rfl (fun ls' h' => k ws H locs ls' _ hw (rvLo_set1 l0 (rv_blt hc2) hv2 hx2 h') hs1 hP hD hS)
    · exact lv_astore_n hx hb hd rfl hv1 (rv_blt hc2) rfl (fun ls' h' => k ws H locs ls' _ hw (rvLo_set1 l0 (rv_blt hc2) hv2 hx2 h') hs1 hP hD hS)
  · cases h
set_option maxHeartbeats 4000000 in
set_option maxRecDepth 100000 in
theorem rs_iinc (C : rvCx p s m args meth c cc own mL D cT ex A ini sc) {BC BS a1 a2 a3 wi pc kc ks n : Nat} {z : Int} {al st : List rvV} {aw : rvH} {o : rvS} (hd : decode cc pc = .ok (.iinc n z, 3)) (hk : rvAux own ini (.iinc n z) a1 a2 wi = true) (hBC : BC ≤ R.cells) (hBS : BS ≤ R.slots)
    (h : rvStep rvTy rvNf rvTxt sc BC BS mL (.iinc n z) a1 a2 a3 pc al st aw kc ks = some o) (k : rvG p l e R s m args below meth c Q D cT ex A mL o) : rvG p l e R s m args below meth c Q D cT ex A mL (pc, al, st, aw, kc, ks) := by
  obtain ⟨hx, hb, hml, hown, hts, hK, hA, hX, hini, hsc⟩ := C
  intro ws H locs ls stk hw hl hs hP hD hS
  dsimp only at hw hl hs ⊢
  simp only [rvStep] at h
  split at h
  · rename_i a ha
    obtain ⟨hc, rfl⟩ := rv_bif h
    obtain ⟨hc1, hc2⟩ := rv_and hc
    obtain ⟨l0, lv, hv1, hv2⟩ := hl
    rcases hv2 n (.inl a) ha with ⟨z9, q⟩ | ⟨x, hm, n1, rfl, p1, q1⟩
    · cases q
    · obtain ⟨k0, hk0⟩ := List.getElem?_of_mem hm
      have e0 := rv_ofInt hc2
      exact lv_iinc hx hb hd hv1 hk0 rfl (rv_blt hc1) rfl (fun ls' h' => k ws H locs ls' _ hw (rvLo_set1 l0 (rv_blt hc1) hv2 (rvBin_ok (f := (· + ·)) p1 q1 (show z ≤ (Int32.ofInt z).toInt by omega) (show (Int32.ofInt z).toInt ≤ z by omega)) h') hs hP hD hS)
  · cases h
set_option maxHeartbeats 4000000 in
set_option maxRecDepth 100000 in
theorem rs_iadd (C : rvCx p s m args meth c cc own mL D cT ex A ini sc) {BC BS a1 a2 a3 wi pc kc ks : Nat} {al st : List rvV} {aw : rvH} {o : rvS} (hd : decode cc pc = .ok (.iadd, 1)) (hk : rvAux own ini (.iadd) a1 a2 wi = true) (hBC : BC ≤ R.cells) (hBS : BS ≤ R.slots)
    (h : rvStep rvTy rvNf rvTxt sc BC BS mL (.iadd) a1 a2 a3 pc al st aw kc ks = some o) (k : rvG p l e R s m args below meth c Q D cT ex A mL o) : rvG p l e R s m args below meth c Q D cT ex A mL (pc, al, st, aw, kc, ks) := by
  obtain ⟨hx, hb, hml, hown, hts, hK, hA, hX, hini, hsc⟩ := C
  intro ws H locs ls stk hw hl hs hP hD hS
  dsimp only at hw hl hs ⊢
  simp only [rvStep] at h
  split at h
  · rename_i b a st
    cases h
    obtain ⟨y2, stk2, rfl, ⟨n2, rfl, p2, q2⟩, hs2⟩ := rvRs_cons hs
    obtain ⟨y1, stk1, rfl, ⟨n1, rfl, p1, q1⟩, hs1⟩ := rvRs_cons hs2
    exact lv_iadd hx hb hd (k ws H locs ls _ hw hl ⟨rvBin_ok p1 q1 p2 q2, hs1⟩ hP hD hS)
  · cases h
set_option maxHeartbeats 4000000 in
set_option maxRecDepth 100000 in
theorem rs_isub (C : rvCx p s m args meth c cc own mL D cT ex A ini sc) {BC BS a1 a2 a3 wi pc kc ks : Nat} {al st : List rvV} {aw : rvH} {o : rvS} (hd : decode cc pc = .ok (.isub, 1)) (hk : rvAux own ini (.isub) a1 a2 wi = true) (hBC : BC ≤ R.cells) (hBS : BS ≤ R.slots)
    (h : rvStep rvTy rvNf rvTxt sc BC BS mL (.isub) a1 a2 a3 pc al st aw kc ks = some o) (k : rvG p l e R s m args below meth c Q D cT ex A mL o) : rvG p l e R s m args below meth c Q D cT ex A mL (pc, al, st, aw, kc, ks) := by
  obtain ⟨hx, hb, hml, hown, hts, hK, hA, hX, hini, hsc⟩ := C
  intro ws H locs ls stk hw hl hs hP hD hS
  dsimp only at hw hl hs ⊢
  simp only [rvStep] at h
  split at h
  · rename_i b a st
    cases h
    obtain ⟨y2, stk2, rfl, ⟨n2, rfl, p2, q2⟩, hs2⟩ := rvRs_cons hs
    obtain ⟨y1, stk1, rfl, ⟨n1, rfl, p1, q1⟩, hs1⟩ := rvRs_cons hs2
    exact lv_isub hx hb hd (k ws H locs ls _ hw hl ⟨rvBin_ok p1 q1 p2 q2, hs1⟩ hP hD hS)
  · cases h
set_option maxHeartbeats 4000000 in
set_option maxRecDepth 100000 in
theorem rs_imul (C : rvCx p s m args meth c cc own mL D cT ex A ini sc) {BC BS a1 a2 a3 wi pc kc ks : Nat} {al st : List rvV} {aw : rvH} {o : rvS} (hd : decode cc pc = .ok (.imul, 1)) (hk : rvAux own ini (.imul) a1 a2 wi = true) (hBC : BC ≤ R.cells) (hBS : BS ≤ R.slots)
    (h : rvStep rvTy rvNf rvTxt sc BC BS mL (.imul) a1 a2 a3 pc al st aw kc ks = some o) (k : rvG p l e R s m args below meth c Q D cT ex A mL o) : rvG p l e R s m args below meth c Q D cT ex A mL (pc, al, st, aw, kc, ks) := by
  obtain ⟨hx, hb, hml, hown, hts, hK, hA, hX, hini, hsc⟩ := C
  intro ws H locs ls stk hw hl hs hP hD hS
  dsimp only at hw hl hs ⊢
  simp only [rvStep] at h
  split at h
  · rename_i b a st
    cases h
    obtain ⟨y2, stk2, rfl, ⟨n2, rfl, p2, q2⟩, hs2⟩ := rvRs_cons hs
    obtain ⟨y1, stk1, rfl, ⟨n1, rfl, p1, q1⟩, hs1⟩ := rvRs_cons hs2
    exact lv_imul hx hb hd (k ws H locs ls _ hw hl ⟨rvBin_ok p1 q1 p2 q2, hs1⟩ hP hD hS)
  · cases h
set_option maxHeartbeats 4000000 in
set_option maxRecDepth 100000 in
theorem rs_iand (C : rvCx p s m args meth c cc own mL D cT ex A ini sc) {BC BS a1 a2 a3 wi pc kc ks : Nat} {al st : List rvV} {aw : rvH} {o : rvS} (hd : decode cc pc = .ok (.iand, 1)) (hk : rvAux own ini (.iand) a1 a2 wi = true) (hBC : BC ≤ R.cells) (hBS : BS ≤ R.slots)
    (h : rvStep rvTy rvNf rvTxt sc BC BS mL (.iand) a1 a2 a3 pc al st aw kc ks = some o) (k : rvG p l e R s m args below meth c Q D cT ex A mL o) : rvG p l e R s m args below meth c Q D cT ex A mL (pc, al, st, aw, kc, ks) := by
  obtain ⟨hx, hb, hml, hown, hts, hK, hA, hX, hini, hsc⟩ := C
  intro ws H locs ls stk hw hl hs hP hD hS
  dsimp only at hw hl hs ⊢
  simp only [rvStep] at h
  split at h
  · rename_i b a st
    cases h
    obtain ⟨y2, stk2, rfl, ⟨n2, rfl, p2, q2⟩, hs2⟩ := rvRs_cons hs
    obtain ⟨y1, stk1, rfl, ⟨n1, rfl, p1, q1⟩, hs1⟩ := rvRs_cons hs2
    exact lv_iand hx hb hd (k ws H locs ls _ hw hl ⟨rvBin_ok p1 q1 p2 q2, hs1⟩ hP hD hS)
  · cases h
set_option maxHeartbeats 4000000 in
set_option maxRecDepth 100000 in
theorem rs_ior (C : rvCx p s m args meth c cc own mL D cT ex A ini sc) {BC BS a1 a2 a3 wi pc kc ks : Nat} {al st : List rvV} {aw : rvH} {o : rvS} (hd : decode cc pc = .ok (.ior, 1)) (hk : rvAux own ini (.ior) a1 a2 wi = true) (hBC : BC ≤ R.cells) (hBS : BS ≤ R.slots)
    (h : rvStep rvTy rvNf rvTxt sc BC BS mL (.ior) a1 a2 a3 pc al st aw kc ks = some o) (k : rvG p l e R s m args below meth c Q D cT ex A mL o) : rvG p l e R s m args below meth c Q D cT ex A mL (pc, al, st, aw, kc, ks) := by
  obtain ⟨hx, hb, hml, hown, hts, hK, hA, hX, hini, hsc⟩ := C
  intro ws H locs ls stk hw hl hs hP hD hS
  dsimp only at hw hl hs ⊢
  simp only [rvStep] at h
  split at h
  · rename_i b a st
    cases h
    obtain ⟨y2, stk2, rfl, ⟨n2, rfl, p2, q2⟩, hs2⟩ := rvRs_cons hs
    obtain ⟨y1, stk1, rfl, ⟨n1, rfl, p1, q1⟩, hs1⟩ := rvRs_cons hs2
    exact lv_ior hx hb hd (k ws H locs ls _ hw hl ⟨rvBin_ok p1 q1 p2 q2, hs1⟩ hP hD hS)
  · cases h
set_option maxHeartbeats 4000000 in
set_option maxRecDepth 100000 in
theorem rs_ixor (C : rvCx p s m args meth c cc own mL D cT ex A ini sc) {BC BS a1 a2 a3 wi pc kc ks : Nat} {al st : List rvV} {aw : rvH} {o : rvS} (hd : decode cc pc = .ok (.ixor, 1)) (hk : rvAux own ini (.ixor) a1 a2 wi = true) (hBC : BC ≤ R.cells) (hBS : BS ≤ R.slots)
    (h : rvStep rvTy rvNf rvTxt sc BC BS mL (.ixor) a1 a2 a3 pc al st aw kc ks = some o) (k : rvG p l e R s m args below meth c Q D cT ex A mL o) : rvG p l e R s m args below meth c Q D cT ex A mL (pc, al, st, aw, kc, ks) := by
  obtain ⟨hx, hb, hml, hown, hts, hK, hA, hX, hini, hsc⟩ := C
  intro ws H locs ls stk hw hl hs hP hD hS
  dsimp only at hw hl hs ⊢
  simp only [rvStep] at h
  split at h
  · rename_i b a st
    cases h
    obtain ⟨y2, stk2, rfl, ⟨n2, rfl, p2, q2⟩, hs2⟩ := rvRs_cons hs
    obtain ⟨y1, stk1, rfl, ⟨n1, rfl, p1, q1⟩, hs1⟩ := rvRs_cons hs2
    exact lv_ixor hx hb hd (k ws H locs ls _ hw hl ⟨rvBin_ok p1 q1 p2 q2, hs1⟩ hP hD hS)
  · cases h
set_option maxHeartbeats 4000000 in
set_option maxRecDepth 100000 in
theorem rs_ishl (C : rvCx p s m args meth c cc own mL D cT ex A ini sc) {BC BS a1 a2 a3 wi pc kc ks : Nat} {al st : List rvV} {aw : rvH} {o : rvS} (hd : decode cc pc = .ok (.ishl, 1)) (hk : rvAux own ini (.ishl) a1 a2 wi = true) (hBC : BC ≤ R.cells) (hBS : BS ≤ R.slots)
    (h : rvStep rvTy rvNf rvTxt sc BC BS mL (.ishl) a1 a2 a3 pc al st aw kc ks = some o) (k : rvG p l e R s m args below meth c Q D cT ex A mL o) : rvG p l e R s m args below meth c Q D cT ex A mL (pc, al, st, aw, kc, ks) := by
  obtain ⟨hx, hb, hml, hown, hts, hK, hA, hX, hini, hsc⟩ := C
  intro ws H locs ls stk hw hl hs hP hD hS
  dsimp only at hw hl hs ⊢
  simp only [rvStep] at h
  split at h
  · rename_i b a st
    cases h
    obtain ⟨y2, stk2, rfl, ⟨n2, rfl, p2, q2⟩, hs2⟩ := rvRs_cons hs
    obtain ⟨y1, stk1, rfl, ⟨n1, rfl, p1, q1⟩, hs1⟩ := rvRs_cons hs2
    exact lv_ishl hx hb hd (k ws H locs ls _ hw hl ⟨rvBin_ok (f := fun x y => x <<< (y &&& 31)) p1 q1 p2 q2, hs1⟩ hP hD hS)
  · cases h
set_option maxHeartbeats 4000000 in
set_option maxRecDepth 100000 in
theorem rs_ishr (C : rvCx p s m args meth c cc own mL D cT ex A ini sc) {BC BS a1 a2 a3 wi pc kc ks : Nat} {al st : List rvV} {aw : rvH} {o : rvS} (hd : decode cc pc = .ok (.ishr, 1)) (hk : rvAux own ini (.ishr) a1 a2 wi = true) (hBC : BC ≤ R.cells) (hBS : BS ≤ R.slots)
    (h : rvStep rvTy rvNf rvTxt sc BC BS mL (.ishr) a1 a2 a3 pc al st aw kc ks = some o) (k : rvG p l e R s m args below meth c Q D cT ex A mL o) : rvG p l e R s m args below meth c Q D cT ex A mL (pc, al, st, aw, kc, ks) := by
  obtain ⟨hx, hb, hml, hown, hts, hK, hA, hX, hini, hsc⟩ := C
  intro ws H locs ls stk hw hl hs hP hD hS
  dsimp only at hw hl hs ⊢
  simp only [rvStep] at h
  split at h
  · rename_i b a st
    cases h
    obtain ⟨y2, stk2, rfl, ⟨n2, rfl, p2, q2⟩, hs2⟩ := rvRs_cons hs
    obtain ⟨y1, stk1, rfl, ⟨n1, rfl, p1, q1⟩, hs1⟩ := rvRs_cons hs2
    exact lv_ishr hx hb hd (k ws H locs ls _ hw hl ⟨rvBin_ok (f := fun x y => x >>> (y &&& 31)) p1 q1 p2 q2, hs1⟩ hP hD hS)
  · cases h
set_option maxHeartbeats 4000000 in
set_option maxRecDepth 100000 in
theorem rs_iushr (C : rvCx p s m args meth c cc own mL D cT ex A ini sc) {BC BS a1 a2 a3 wi pc kc ks : Nat} {al st : List rvV} {aw : rvH} {o : rvS} (hd : decode cc pc = .ok (.iushr, 1)) (hk : rvAux own ini (.iushr) a1 a2 wi = true) (hBC : BC ≤ R.cells) (hBS : BS ≤ R.slots)
    (h : rvStep rvTy rvNf rvTxt sc BC BS mL (.iushr) a1 a2 a3 pc al st aw kc ks = some o) (k : rvG p l e R s m args below meth c Q D cT ex A mL o) : rvG p l e R s m args below meth c Q D cT ex A mL (pc, al, st, aw, kc, ks) := by
  obtain ⟨hx, hb, hml, hown, hts, hK, hA, hX, hini, hsc⟩ := C
  intro ws H locs ls stk hw hl hs hP hD hS
  dsimp only at hw hl hs ⊢
  simp only [rvStep] at h
  split at h
  · rename_i b a st
    cases h
    obtain ⟨y2, stk2, rfl, ⟨n2, rfl, p2, q2⟩, hs2⟩ := rvRs_cons hs
    obtain ⟨y1, stk1, rfl, ⟨n1, rfl, p1, q1⟩, hs1⟩ := rvRs_cons hs2
    exact lv_iushr hx hb hd rfl (k ws H locs ls _ hw hl ⟨rvBin_ok (f := fun x y => (x.toUInt32 >>> (y.toUInt32 &&& Int32.toUInt32 31)).toInt32) p1 q1 p2 q2, hs1⟩ hP hD hS)
  · cases h
set_option maxHeartbeats 4000000 in
set_option maxRecDepth 100000 in
theorem rs_irem (C : rvCx p s m args meth c cc own mL D cT ex A ini sc) {BC BS a1 a2 a3 wi pc kc ks : Nat} {al st : List rvV} {aw : rvH} {o : rvS} (hd : decode cc pc = .ok (.irem, 1)) (hk : rvAux own ini (.irem) a1 a2 wi = true) (hBC : BC ≤ R.cells) (hBS : BS ≤ R.slots)
    (h : rvStep rvTy rvNf rvTxt sc BC BS mL (.irem) a1 a2 a3 pc al st aw kc ks = some o) (k : rvG p l e R s m args below meth c Q D cT ex A mL o) : rvG p l e R s m args below meth c Q D cT ex A mL (pc, al, st, aw, kc, ks) := by
  obtain ⟨hx, hb, hml, hown, hts, hK, hA, hX, hini, hsc⟩ := C
  intro ws H locs ls stk hw hl hs hP hD hS
  dsimp only at hw hl hs ⊢
  simp only [rvStep] at h
  split at h
  · rename_i b a st
    obtain ⟨hc, rfl⟩ := rv_bif h
    obtain ⟨hc1, hc2⟩ := rv_and hc
    obtain ⟨y2, stk2, rfl, ⟨n2, rfl, p2, q2⟩, hs2⟩ := rvRs_cons hs
    obtain ⟨y1, stk1, rfl, ⟨n1, rfl, p1, q1⟩, hs1⟩ := rvRs_cons hs2
    have hne : ¬ n2 = 0 := fun q => by
      obtain ⟨e1, -⟩ := rv_one hc1 p2 q2
      rw [q] at e1
      have e1 : (0 : Int) = b.1 := e1
      rw [← e1] at hc2
      exact absurd hc2 (by decide)
    exact lv_irem hx hb hd hne (k ws H locs ls _ hw hl ⟨rvBin_ok (f := fun x y => x - x / y * y) p1 q1 p2 q2, hs1⟩ hP hD hS)
  · cases h
set_option maxHeartbeats 4000000 in
set_option maxRecDepth 100000 in
theorem rs_i2b (C : rvCx p s m args meth c cc own mL D cT ex A ini sc) {BC BS a1 a2 a3 wi pc kc ks : Nat} {al st : List rvV} {aw : rvH} {o : rvS} (hd : decode cc pc = .ok (.i2b, 1)) (hk : rvAux own ini (.i2b) a1 a2 wi = true) (hBC : BC ≤ R.cells) (hBS : BS ≤ R.slots)
    (h : rvStep rvTy rvNf rvTxt sc BC BS mL (.i2b) a1 a2 a3 pc al st aw kc ks = some o) (k : rvG p l e R s m args below meth c Q D cT ex A mL o) : rvG p l e R s m args below meth c Q D cT ex A mL (pc, al, st, aw, kc, ks) := by
  obtain ⟨hx, hb, hml, hown, hts, hK, hA, hX, hini, hsc⟩ := C
  intro ws H locs ls stk hw hl hs hP hD hS
  dsimp only at hw hl hs ⊢
  simp only [rvStep] at h
  split at h
  · rename_i a st
    cases h
    obtain ⟨y1, stk1, rfl, ⟨n1, rfl, p1, q1⟩, hs1⟩ := rvRs_cons hs
    refine lv_i2b hx hb hd rfl (k ws H locs ls _ hw hl ⟨?_, hs1⟩ hP hD hS)
    cases h1 : rvOne a with
    | true =>
      obtain ⟨-, e1⟩ := rv_one h1 p1 q1
      rw [e1]
      exact rvR_K rfl
    | false =>
      refine ⟨_, rfl, ?_, ?_⟩
      · rw [Int8.toInt_toInt32]
        exact Int8.le_toInt _
      · rw [Int8.toInt_toInt32]
        have := Int8.toInt_lt n1.toInt8
        show _ ≤ (127 : Int)
        omega
  · cases h
set_option maxHeartbeats 4000000 in
set_option maxRecDepth 100000 in
theorem rs_i2c (C : rvCx p s m args meth c cc own mL D cT ex A ini sc) {BC BS a1 a2 a3 wi pc kc ks : Nat} {al st : List rvV} {aw : rvH} {o : rvS} (hd : decode cc pc = .ok (.i2c, 1)) (hk : rvAux own ini (.i2c) a1 a2 wi = true) (hBC : BC ≤ R.cells) (hBS : BS ≤ R.slots)
    (h : rvStep rvTy rvNf rvTxt sc BC BS mL (.i2c) a1 a2 a3 pc al st aw kc ks = some o) (k : rvG p l e R s m args below meth c Q D cT ex A mL o) : rvG p l e R s m args below meth c Q D cT ex A mL (pc, al, st, aw, kc, ks) := by
  obtain ⟨hx, hb, hml, hown, hts, hK, hA, hX, hini, hsc⟩ := C
  intro ws H locs ls stk hw hl hs hP hD hS
  dsimp only at hw hl hs ⊢
  simp only [rvStep] at h
  split at h
  · rename_i a st
    cases h
    obtain ⟨y1, stk1, rfl, ⟨n1, rfl, p1, q1⟩, hs1⟩ := rvRs_cons hs
    refine lv_i2c hx hb hd rfl (k ws H locs ls _ hw hl ⟨?_, hs1⟩ hP hD hS)
    cases h1 : rvOne a with
    | true =>
      obtain ⟨-, e1⟩ := rv_one h1 p1 q1
      rw [e1]
      exact rvR_K rfl
    | false =>
      refine ⟨_, rfl, ?_, ?_⟩
      · rw [pk_char, nI_toInt (by omega)]
        show (0 : Int) ≤ _
        omega
      · rw [pk_char, nI_toInt (by omega)]
        show _ ≤ (65535 : Int)
        omega
  · cases h
set_option maxHeartbeats 4000000 in
set_option maxRecDepth 100000 in
theorem rs_i2l (C : rvCx p s m args meth c cc own mL D cT ex A ini sc) {BC BS a1 a2 a3 wi pc kc ks : Nat} {al st : List rvV} {aw : rvH} {o : rvS} (hd : decode cc pc = .ok (.i2l, 1)) (hk : rvAux own ini (.i2l) a1 a2 wi = true) (hBC : BC ≤ R.cells) (hBS : BS ≤ R.slots)
    (h : rvStep rvTy rvNf rvTxt sc BC BS mL (.i2l) a1 a2 a3 pc al st aw kc ks = some o) (k : rvG p l e R s m args below meth c Q D cT ex A mL o) : rvG p l e R s m args below meth c Q D cT ex A mL (pc, al, st, aw, kc, ks) := by
  obtain ⟨hx, hb, hml, hown, hts, hK, hA, hX, hini, hsc⟩ := C
  intro ws H locs ls stk hw hl hs hP hD hS
  dsimp only at hw hl hs ⊢
  simp only [rvStep] at h
  split at h
  · rename_i a st
    cases h
    obtain ⟨y1, stk1, rfl, ⟨n1, rfl, p1, q1⟩, hs1⟩ := rvRs_cons hs
    exact lv_i2l hx hb hd rfl (k ws H locs ls _ hw hl ⟨⟨_, rfl⟩, hs1⟩ hP hD hS)
  · cases h
set_option maxHeartbeats 4000000 in
set_option maxRecDepth 100000 in
theorem rs_lor (C : rvCx p s m args meth c cc own mL D cT ex A ini sc) {BC BS a1 a2 a3 wi pc kc ks : Nat} {al st : List rvV} {aw : rvH} {o : rvS} (hd : decode cc pc = .ok (.lor, 1)) (hk : rvAux own ini (.lor) a1 a2 wi = true) (hBC : BC ≤ R.cells) (hBS : BS ≤ R.slots)
    (h : rvStep rvTy rvNf rvTxt sc BC BS mL (.lor) a1 a2 a3 pc al st aw kc ks = some o) (k : rvG p l e R s m args below meth c Q D cT ex A mL o) : rvG p l e R s m args below meth c Q D cT ex A mL (pc, al, st, aw, kc, ks) := by
  obtain ⟨hx, hb, hml, hown, hts, hK, hA, hX, hini, hsc⟩ := C
  intro ws H locs ls stk hw hl hs hP hD hS
  dsimp only at hw hl hs ⊢
  simp only [rvStep] at h
  split at h
  · rename_i z1 z2 st
    cases h
    obtain ⟨y2, stk2, rfl, ⟨n2, rfl⟩, hs2⟩ := rvRs_cons hs
    obtain ⟨y1, stk1, rfl, ⟨n1, rfl⟩, hs1⟩ := rvRs_cons hs2
    exact lv_lor hx hb hd (k ws H locs ls _ hw hl ⟨⟨_, rfl⟩, hs1⟩ hP hD hS)
  · cases h
set_option maxHeartbeats 4000000 in
set_option maxRecDepth 100000 in
theorem rs_lshl (C : rvCx p s m args meth c cc own mL D cT ex A ini sc) {BC BS a1 a2 a3 wi pc kc ks : Nat} {al st : List rvV} {aw : rvH} {o : rvS} (hd : decode cc pc = .ok (.lshl, 1)) (hk : rvAux own ini (.lshl) a1 a2 wi = true) (hBC : BC ≤ R.cells) (hBS : BS ≤ R.slots)
    (h : rvStep rvTy rvNf rvTxt sc BC BS mL (.lshl) a1 a2 a3 pc al st aw kc ks = some o) (k : rvG p l e R s m args below meth c Q D cT ex A mL o) : rvG p l e R s m args below meth c Q D cT ex A mL (pc, al, st, aw, kc, ks) := by
  obtain ⟨hx, hb, hml, hown, hts, hK, hA, hX, hini, hsc⟩ := C
  intro ws H locs ls stk hw hl hs hP hD hS
  dsimp only at hw hl hs ⊢
  simp only [rvStep] at h
  split at h
  · rename_i z1 z2 st
    cases h
    obtain ⟨y2, stk2, rfl, ⟨n2, rfl, p2, q2⟩, hs2⟩ := rvRs_cons hs
    obtain ⟨y1, stk1, rfl, ⟨n1, rfl⟩, hs1⟩ := rvRs_cons hs2
    exact lv_lshl hx hb hd rfl (k ws H locs ls _ hw hl ⟨⟨_, rfl⟩, hs1⟩ hP hD hS)
  · cases h
set_option maxHeartbeats 4000000 in
set_option maxRecDepth 100000 in
theorem rs_dup (C : rvCx p s m args meth c cc own mL D cT ex A ini sc) {BC BS a1 a2 a3 wi pc kc ks : Nat} {al st : List rvV} {aw : rvH} {o : rvS} (hd : decode cc pc = .ok (.dup, 1)) (hk : rvAux own ini (.dup) a1 a2 wi = true) (hBC : BC ≤ R.cells) (hBS : BS ≤ R.slots)
    (h : rvStep rvTy rvNf rvTxt sc BC BS mL (.dup) a1 a2 a3 pc al st aw kc ks = some o) (k : rvG p l e R s m args below meth c Q D cT ex A mL o) : rvG p l e R s m args below meth c Q D cT ex A mL (pc, al, st, aw, kc, ks) := by
  obtain ⟨hx, hb, hml, hown, hts, hK, hA, hX, hini, hsc⟩ := C
  intro ws H locs ls stk hw hl hs hP hD hS
  dsimp only at hw hl hs ⊢
  simp only [rvStep] at h
  split at h
  · rename_i v st
    obtain ⟨hc, rfl⟩ := rv_nbif h
    obtain ⟨x, stk1, rfl, hx2, hs1⟩ := rvRs_cons hs
    have hc1 := rvR_cat hx2
    rw [hc] at hc1
    exact lv_dup hx hb hd hc1 (k ws H locs ls _ hw hl ⟨hx2, hx2, hs1⟩ hP hD hS)
  · cases h
set_option maxHeartbeats 4000000 in
set_option maxRecDepth 100000 in
theorem rs_pop (C : rvCx p s m args meth c cc own mL D cT ex A ini sc) {BC BS a1 a2 a3 wi pc kc ks : Nat} {al st : List rvV} {aw : rvH} {o : rvS} (hd : decode cc pc = .ok (.pop, 1)) (hk : rvAux own ini (.pop) a1 a2 wi = true) (hBC : BC ≤ R.cells) (hBS : BS ≤ R.slots)
    (h : rvStep rvTy rvNf rvTxt sc BC BS mL (.pop) a1 a2 a3 pc al st aw kc ks = some o) (k : rvG p l e R s m args below meth c Q D cT ex A mL o) : rvG p l e R s m args below meth c Q D cT ex A mL (pc, al, st, aw, kc, ks) := by
  obtain ⟨hx, hb, hml, hown, hts, hK, hA, hX, hini, hsc⟩ := C
  intro ws H locs ls stk hw hl hs hP hD hS
  dsimp only at hw hl hs ⊢
  simp only [rvStep] at h
  split at h
  · rename_i v st
    obtain ⟨hc, rfl⟩ := rv_nbif h
    obtain ⟨x, stk1, rfl, hx2, hs1⟩ := rvRs_cons hs
    have hc1 := rvR_cat hx2
    rw [hc] at hc1
    exact lv_pop hx hb hd hc1 (k ws H locs ls _ hw hl hs1 hP hD hS)
  · cases h
set_option maxHeartbeats 4000000 in
set_option maxRecDepth 100000 in
theorem rs_dup_x1 (C : rvCx p s m args meth c cc own mL D cT ex A ini sc) {BC BS a1 a2 a3 wi pc kc ks : Nat} {al st : List rvV} {aw : rvH} {o : rvS} (hd : decode cc pc = .ok (.dup_x1, 1)) (hk : rvAux own ini (.dup_x1) a1 a2 wi = true) (hBC : BC ≤ R.cells) (hBS : BS ≤ R.slots)
    (h : rvStep rvTy rvNf rvTxt sc BC BS mL (.dup_x1) a1 a2 a3 pc al st aw kc ks = some o) (k : rvG p l e R s m args below meth c Q D cT ex A mL o) : rvG p l e R s m args below meth c Q D cT ex A mL (pc, al, st, aw, kc, ks) := by
  obtain ⟨hx, hb, hml, hown, hts, hK, hA, hX, hini, hsc⟩ := C
  intro ws H locs ls stk hw hl hs hP hD hS
  dsimp only at hw hl hs ⊢
  simp only [rvStep] at h
  split at h
  · rename_i v w st
    obtain ⟨hc, rfl⟩ := rv_nbif h
    obtain ⟨hc1, hc2⟩ := rv_or hc
    obtain ⟨x, stk1, rfl, hx2, hs1⟩ := rvRs_cons hs
    obtain ⟨y, stk2, rfl, hy2, hs2⟩ := rvRs_cons hs1
    have hd1 := rvR_cat hx2
    rw [hc1] at hd1
    have hd2 := rvR_cat hy2
    rw [hc2] at hd2
    exact lv_dup_x1 hx hb hd hd1 hd2 (k ws H locs ls _ hw hl ⟨hx2, hy2, hx2, hs2⟩ hP hD hS)
  · cases h
set_option maxHeartbeats 4000000 in
set_option maxRecDepth 100000 in
theorem rs_dup2 (C : rvCx p s m args meth c cc own mL D cT ex A ini sc) {BC BS a1 a2 a3 wi pc kc ks : Nat} {al st : List rvV} {aw : rvH} {o : rvS} (hd : decode cc pc = .ok (.dup2, 1)) (hk : rvAux own ini (.dup2) a1 a2 wi = true) (hBC : BC ≤ R.cells) (hBS : BS ≤ R.slots)
    (h : rvStep rvTy rvNf rvTxt sc BC BS mL (.dup2) a1 a2 a3 pc al st aw kc ks = some o) (k : rvG p l e R s m args below meth c Q D cT ex A mL o) : rvG p l e R s m args below meth c Q D cT ex A mL (pc, al, st, aw, kc, ks) := by
  obtain ⟨hx, hb, hml, hown, hts, hK, hA, hX, hini, hsc⟩ := C
  intro ws H locs ls stk hw hl hs hP hD hS
  dsimp only at hw hl hs ⊢
  simp only [rvStep] at h
  split at h
  · rename_i v w st
    obtain ⟨hc, rfl⟩ := rv_nbif h
    obtain ⟨hc1, hc2⟩ := rv_or hc
    obtain ⟨x, stk1, rfl, hx2, hs1⟩ := rvRs_cons hs
    obtain ⟨y, stk2, rfl, hy2, hs2⟩ := rvRs_cons hs1
    have hd1 := rvR_cat hx2
    rw [hc1] at hd1
    have hd2 := rvR_cat hy2
    rw [hc2] at hd2
    exact lv_dup2_11 hx hb hd hd1 hd2 (k ws H locs ls _ hw hl ⟨hx2, hy2, hx2, hy2, hs2⟩ hP hD hS)
  · cases h
set_option maxHeartbeats 4000000 in
set_option maxRecDepth 100000 in
theorem rs_if_icmp (C : rvCx p s m args meth c cc own mL D cT ex A ini sc) {BC BS a1 a2 a3 wi pc kc ks : Nat} {cd : ClassFile.Cond} {off : Int} {al st : List rvV} {aw : rvH} {o : rvS} (hd : decode cc pc = .ok (.if_icmp cd off, 3)) (hk : rvAux own ini (.if_icmp cd off) a1 a2 wi = true) (hBC : BC ≤ R.cells) (hBS : BS ≤ R.slots)
    (h : rvStep rvTy rvNf rvTxt sc BC BS mL (.if_icmp cd off) a1 a2 a3 pc al st aw kc ks = some o) (k : rvG p l e R s m args below meth c Q D cT ex A mL o) : rvG p l e R s m args below meth c Q D cT ex A mL (pc, al, st, aw, kc, ks) := by
  obtain ⟨hx, hb, hml, hown, hts, hK, hA, hX, hini, hsc⟩ := C
  intro ws H locs ls stk hw hl hs hP hD hS
  dsimp only at hw hl hs ⊢
  simp only [rvStep] at h
  split at h
  · rename_i b a st
    split at h
    · rename_i t hc ht
      cases h
      obtain ⟨y2, stk2, rfl, ⟨n2, rfl, p2, q2⟩, hs2⟩ := rvRs_cons hs
      obtain ⟨y1, stk1, rfl, ⟨n1, rfl, p1, q1⟩, hs1⟩ := rvRs_cons hs2
      cases cd
      case eq => exact lv_icmp_eq hx hb hd (rvJ_ok ht) (fun _ => k ws H locs ls _ hw hl hs1 hP hD hS) (fun q => absurd ((rvC_eq hc p1 q1 p2 q2).mpr rfl) q)
      case ne => exact lv_icmp_ne hx hb hd (rvJ_ok ht) (fun _ => k ws H locs ls _ hw hl hs1 hP hD hS) (fun q => absurd q ((rvC_ne hc p1 q1 p2 q2).mpr rfl))
      case lt => exact lv_icmp_lt hx hb hd (rvJ_ok ht) (fun _ => k ws H locs ls _ hw hl hs1 hP hD hS) (fun q => absurd ((rvC_lt hc p1 q1 p2 q2).mpr rfl) q)
      case ge => exact lv_icmp_ge hx hb hd (rvJ_ok ht) (fun _ => k ws H locs ls _ hw hl hs1 hP hD hS) (fun q => absurd ((rvC_ge hc p1 q1 p2 q2).mpr rfl) q)
      case gt => exact lv_icmp_gt hx hb hd (rvJ_ok ht) (fun _ => k ws H locs ls _ hw hl hs1 hP hD hS) (fun q => absurd ((rvC_gt hc p1 q1 p2 q2).mpr rfl) q)
      case le => exact lv_icmp_le hx hb hd (rvJ_ok ht) (fun _ => k ws H locs ls _ hw hl hs1 hP hD hS) (fun q => absurd ((rvC_le hc p1 q1 p2 q2).mpr rfl) q)
    · rename_i t hc ht
      cases h
      obtain ⟨y2, stk2, rfl, ⟨n2, rfl, p2, q2⟩, hs2⟩ := rvRs_cons hs
      obtain ⟨y1, stk1, rfl, ⟨n1, rfl, p1, q1⟩, hs1⟩ := rvRs_cons hs2
      cases cd
      case eq => exact lv_icmp_eq hx hb hd (rvJ_ok ht) (fun q => absurd ((rvC_eq hc p1 q1 p2 q2).mp q) (by decide)) (fun _ => k ws H locs ls _ hw hl hs1 hP hD hS)
      case ne => exact lv_icmp_ne hx hb hd (rvJ_ok ht) (fun q => absurd ((rvC_ne hc p1 q1 p2 q2).mp q) (by decide)) (fun _ => k ws H locs ls _ hw hl hs1 hP hD hS)
      case lt => exact lv_icmp_lt hx hb hd (rvJ_ok ht) (fun q => absurd ((rvC_lt hc p1 q1 p2 q2).mp q) (by decide)) (fun _ => k ws H locs ls _ hw hl hs1 hP hD hS)
      case ge => exact lv_icmp_ge hx hb hd (rvJ_ok ht) (fun q => absurd ((rvC_ge hc p1 q1 p2 q2).mp q) (by decide)) (fun _ => k ws H locs ls _ hw hl hs1 hP hD hS)
      case gt => exact lv_icmp_gt hx hb hd (rvJ_ok ht) (fun q => absurd ((rvC_gt hc p1 q1 p2 q2).mp q) (by decide)) (fun _ => k ws H locs ls _ hw hl hs1 hP hD hS)
      case le => exact lv_icmp_le hx hb hd (rvJ_ok ht) (fun q => absurd ((rvC_le hc p1 q1 p2 q2).mp q) (by decide)) (fun _ => k ws H locs ls _ hw hl hs1 hP hD hS)
    · cases h
  · cases h
set_option maxHeartbeats 4000000 in
set_option maxRecDepth 100000 in
theorem rs_ifCond (C : rvCx p s m args meth c cc own mL D cT ex A ini sc) {BC BS a1 a2 a3 wi pc kc ks : Nat} {cd : ClassFile.Cond} {off : Int} {al st : List rvV} {aw : rvH} {o : rvS} (hd : decode cc pc = .ok (.ifCond cd off, 3)) (hk : rvAux own ini (.ifCond cd off) a1 a2 wi = true) (hBC : BC ≤ R.cells) (hBS : BS ≤ R.slots)
    (h : rvStep rvTy rvNf rvTxt sc BC BS mL (.ifCond cd off) a1 a2 a3 pc al st aw kc ks = some o) (k : rvG p l e R s m args below meth c Q D cT ex A mL o) : rvG p l e R s m args below meth c Q D cT ex A mL (pc, al, st, aw, kc, ks) := by
  obtain ⟨hx, hb, hml, hown, hts, hK, hA, hX, hini, hsc⟩ := C
  intro ws H locs ls stk hw hl hs hP hD hS
  dsimp only at hw hl hs ⊢
  simp only [rvStep] at h
  split at h
  · rename_i a st
    split at h
    · rename_i t hc ht
      cases h
      have p2 : ((0 : Int), (0 : Int)).1 ≤ (0 : Int32).toInt := Int.le_refl 0
      have q2 : (0 : Int32).toInt ≤ ((0 : Int), (0 : Int)).2 := Int.le_refl 0
      obtain ⟨y1, stk1, rfl, ⟨n1, rfl, p1, q1⟩, hs1⟩ := rvRs_cons hs
      cases cd
      case eq => exact lv_if_eq hx hb hd (rvJ_ok ht) (fun _ => k ws H locs ls _ hw hl hs1 hP hD hS) (fun q => absurd ((rvC_eq hc p1 q1 p2 q2).mpr rfl) q)
      case ne => exact lv_if_ne hx hb hd (rvJ_ok ht) (fun _ => k ws H locs ls _ hw hl hs1 hP hD hS) (fun q => absurd q ((rvC_ne hc p1 q1 p2 q2).mpr rfl))
      case lt => exact lv_if_lt hx hb hd (rvJ_ok ht) (fun _ => k ws H locs ls _ hw hl hs1 hP hD hS) (fun q => absurd ((rvC_lt hc p1 q1 p2 q2).mpr rfl) q)
      case ge => exact lv_if_ge hx hb hd (rvJ_ok ht) (fun _ => k ws H locs ls _ hw hl hs1 hP hD hS) (fun q => absurd ((rvC_ge hc p1 q1 p2 q2).mpr rfl) q)
      case gt => exact lv_if_gt hx hb hd (rvJ_ok ht) (fun _ => k ws H locs ls _ hw hl hs1 hP hD hS) (fun q => absurd ((rvC_gt hc p1 q1 p2 q2).mpr rfl) q)
      case le => exact lv_if_le hx hb hd (rvJ_ok ht) (fun _ => k ws H locs ls _ hw hl hs1 hP hD hS) (fun q => absurd ((rvC_le hc p1 q1 p2 q2).mpr rfl) q)
    · rename_i t hc ht
      cases h
      have p2 : ((0 : Int), (0 : Int)).1 ≤ (0 : Int32).toInt := Int.le_refl 0
      have q2 : (0 : Int32).toInt ≤ ((0 : Int), (0 : Int)).2 := Int.le_refl 0
      obtain ⟨y1, stk1, rfl, ⟨n1, rfl, p1, q1⟩, hs1⟩ := rvRs_cons hs
      cases cd
      case eq => exact lv_if_eq hx hb hd (rvJ_ok ht) (fun q => absurd ((rvC_eq hc p1 q1 p2 q2).mp q) (by decide)) (fun _ => k ws H locs ls _ hw hl hs1 hP hD hS)
      case ne => exact lv_if_ne hx hb hd (rvJ_ok ht) (fun q => absurd ((rvC_ne hc p1 q1 p2 q2).mp q) (by decide)) (fun _ => k ws H locs ls _ hw hl hs1 hP hD hS)
      case lt => exact lv_if_lt hx hb hd (rvJ_ok ht) (fun q => absurd ((rvC_lt hc p1 q1 p2 q2).mp q) (by decide)) (fun _ => k ws H locs ls _ hw hl hs1 hP hD hS)
      case ge => exact lv_if_ge hx hb hd (rvJ_ok ht) (fun q => absurd ((rvC_ge hc p1 q1 p2 q2).mp q) (by decide)) (fun _ => k ws H locs ls _ hw hl hs1 hP hD hS)
      case gt => exact lv_if_gt hx hb hd (rvJ_ok ht) (fun q => absurd ((rvC_gt hc p1 q1 p2 q2).mp q) (by decide)) (fun _ => k ws H locs ls _ hw hl hs1 hP hD hS)
      case le => exact lv_if_le hx hb hd (rvJ_ok ht) (fun q => absurd ((rvC_le hc p1 q1 p2 q2).mp q) (by decide)) (fun _ => k ws H locs ls _ hw hl hs1 hP hD hS)
    · cases h
  · cases h
end RVS
end
section
section RVH
variable {p : Program} {l : Launch} {e : Env} {R : Room} {s : State} {m : MethodId} {args : Array Value} {below : List Frame} {meth : Method} {c : Code} {Q : State → Prop} {cc : ByteArray} {own : String} {mL : Nat} {D : va_G} {cT : Nat → ClassId} {ex : Nat → Nat → Nat} {A : Nat → Prop} {sc : List (Int × Int)} {ini : Bool}
set_option maxHeartbeats 4000000 in
set_option maxRecDepth 100000 in
theorem rs_goto (C : rvCx p s m args meth c cc own mL D cT ex A ini sc) {BC BS a1 a2 a3 wi pc kc ks : Nat} {off : Int} {al st : List rvV} {aw : rvH} {o : rvS} (hd : decode cc pc = .ok (.goto off, 3)) (hk : rvAux own ini (.goto off) a1 a2 wi = true) (hBC : BC ≤ R.cells) (hBS : BS ≤ R.slots)
    (h : rvStep rvTy rvNf rvTxt sc BC BS mL (.goto off) a1 a2 a3 pc al st aw kc ks = some o) (k : rvG p l e R s m args below meth c Q D cT ex A mL o) : rvG p l e R s m args below meth c Q D cT ex A mL (pc, al, st, aw, kc, ks) := by
  obtain ⟨hx, hb, hml, hown, hts, hK, hA, hX, hini, hsc⟩ := C
  intro ws H locs ls stk hw hl hs hP hD hS
  dsimp only at hw hl hs ⊢
  simp only [rvStep] at h
  split at h
  · rename_i t ht
    cases h
    exact lv_goto hx hb hd (rvJ_ok ht) (k ws H locs ls _ hw hl hs hP hD hS)
  · cases h
set_option maxHeartbeats 4000000 in
set_option maxRecDepth 100000 in
theorem rs_ifnull (C : rvCx p s m args meth c cc own mL D cT ex A ini sc) {BC BS a1 a2 a3 wi pc kc ks : Nat} {off : Int} {al st : List rvV} {aw : rvH} {o : rvS} (hd : decode cc pc = .ok (.ifnull off, 3)) (hk : rvAux own ini (.ifnull off) a1 a2 wi = true) (hBC : BC ≤ R.cells) (hBS : BS ≤ R.slots)
    (h : rvStep rvTy rvNf rvTxt sc BC BS mL (.ifnull off) a1 a2 a3 pc al st aw kc ks = some o) (k : rvG p l e R s m args below meth c Q D cT ex A mL o) : rvG p l e R s m args below meth c Q D cT ex A mL (pc, al, st, aw, kc, ks) := by
  obtain ⟨hx, hb, hml, hown, hts, hK, hA, hX, hini, hsc⟩ := C
  intro ws H locs ls stk hw hl hs hP hD hS
  dsimp only at hw hl hs ⊢
  simp only [rvStep] at h
  split at h
  · rename_i z st
    cases h
    obtain ⟨x, stk1, rfl, ⟨q, hq, rfl⟩, hs1⟩ := rvRs_cons hs
    exact lv_ifnull hx hb hd (k ws H locs ls _ hw hl hs1 hP hD hS)
  · rename_i z st
    split at h
    · rename_i t ht
      cases h
      obtain ⟨x, stk1, rfl, hx2, hs1⟩ := rvRs_cons hs
      cases hx2
      exact lv_ifnullN hx hb hd (rvJ_ok ht) (k ws H locs ls _ hw hl hs1 hP hD hS)
    · cases h
  · cases h
set_option maxHeartbeats 4000000 in
set_option maxRecDepth 100000 in
theorem rs_ifnonnull (C : rvCx p s m args meth c cc own mL D cT ex A ini sc) {BC BS a1 a2 a3 wi pc kc ks : Nat} {off : Int} {al st : List rvV} {aw : rvH} {o : rvS} (hd : decode cc pc = .ok (.ifnonnull off, 3)) (hk : rvAux own ini (.ifnonnull off) a1 a2 wi = true) (hBC : BC ≤ R.cells) (hBS : BS ≤ R.slots)
    (h : rvStep rvTy rvNf rvTxt sc BC BS mL (.ifnonnull off) a1 a2 a3 pc al st aw kc ks = some o) (k : rvG p l e R s m args below meth c Q D cT ex A mL o) : rvG p l e R s m args below meth c Q D cT ex A mL (pc, al, st, aw, kc, ks) := by
  obtain ⟨hx, hb, hml, hown, hts, hK, hA, hX, hini, hsc⟩ := C
  intro ws H locs ls stk hw hl hs hP hD hS
  dsimp only at hw hl hs ⊢
  simp only [rvStep] at h
  split at h
  · rename_i z st
    cases h
    obtain ⟨x, stk1, rfl, hx2, hs1⟩ := rvRs_cons hs
    cases hx2
    exact lv_ifnonnullN hx hb hd (k ws H locs ls _ hw hl hs1 hP hD hS)
  · rename_i z st
    split at h
    · rename_i t ht
      cases h
      obtain ⟨x, stk1, rfl, ⟨q, hq, rfl⟩, hs1⟩ := rvRs_cons hs
      exact lv_ifnonnull hx hb hd (rvJ_ok ht) (k ws H locs ls _ hw hl hs1 hP hD hS)
    · cases h
  · cases h
set_option maxHeartbeats 4000000 in
set_option maxRecDepth 100000 in
theorem rs_tableswitch (C : rvCx p s m args meth c cc own mL D cT ex A ini sc) {BC BS a1 a2 a3 wi pc kc ks len : Nat} {dflt lo hi : Int} {offs : Array Int} {al st : List rvV} {aw : rvH} {o : rvS} (hd : decode cc pc = .ok (.tableswitch dflt lo hi offs, len)) (hk : rvAux own ini (.tableswitch dflt lo hi offs) a1 a2 wi = true) (hBC : BC ≤ R.cells) (hBS : BS ≤ R.slots)
    (h : rvStep rvTy rvNf rvTxt sc BC BS mL (.tableswitch dflt lo hi offs) a1 a2 a3 pc al st aw kc ks = some o) (k : rvG p l e R s m args below meth c Q D cT ex A mL o) : rvG p l e R s m args below meth c Q D cT ex A mL (pc, al, st, aw, kc, ks) := by
  obtain ⟨hx, hb, hml, hown, hts, hK, hA, hX, hini, hsc⟩ := C
  intro ws H locs ls stk hw hl hs hP hD hS
  dsimp only at hw hl hs ⊢
  simp only [rvStep] at h
  split at h
  · rename_i a st
    obtain ⟨x, stk1, rfl, ⟨n1, rfl, p1, q1⟩, hs1⟩ := rvRs_cons hs
    cases hc : (decide (a.2 < lo) || decide (hi < a.1)) with
    | true =>
      rw [hc] at h
      simp only [cond_true] at h
      split at h
      · rename_i t ht
        cases h
        refine lv_tableOut hx hb hd ?_ (rvJ_ok ht) (k ws H locs ls _ hw hl hs1 hP hD hS)
        rcases rv_or' hc with q | q
        · have := of_decide_eq_true q
          exact Or.inl (by omega)
        · have := of_decide_eq_true q
          exact Or.inr (by omega)
      · cases h
    | false =>
      rw [hc] at h
      simp only [cond_false] at h
      cases hc2 : (rvOne a && (decide (lo ≤ a.1) && decide (a.1 ≤ hi))) with
      | false => rw [hc2] at h; cases h
      | true =>
        rw [hc2] at h
        simp only [cond_true] at h
        obtain ⟨g1, g2⟩ := rv_and hc2
        obtain ⟨g2, g3⟩ := rv_and g2
        have g2 := of_decide_eq_true g2
        have g3 := of_decide_eq_true g3
        obtain ⟨e1, -⟩ := rv_one g1 p1 q1
        split at h
        · rename_i off ho
          split at h
          · rename_i t ht
            cases h
            exact lv_tableIn hx hb hd (by omega) (by omega) (by rw [e1]; exact ho) (rvJ_ok ht) (k ws H locs ls _ hw hl hs1 hP hD hS)
          · cases h
        · cases h
  · cases h
set_option maxHeartbeats 4000000 in
set_option maxRecDepth 100000 in
theorem rs_getfield (C : rvCx p s m args meth c cc own mL D cT ex A ini sc) {BC BS a1 a2 a3 wi pc kc ks idx : Nat} {al st : List rvV} {aw : rvH} {o : rvS} (hd : decode cc pc = .ok (.getfield idx, 3)) (hk : rvAux own ini (.getfield idx) a1 a2 wi = true) (hBC : BC ≤ R.cells) (hBS : BS ≤ R.slots)
    (h : rvStep rvTy rvNf rvTxt sc BC BS mL (.getfield idx) a1 a2 a3 pc al st aw kc ks = some o) (k : rvG p l e R s m args below meth c Q D cT ex A mL o) : rvG p l e R s m args below meth c Q D cT ex A mL (pc, al, st, aw, kc, ks) := by
  obtain ⟨hx, hb, hml, hown, hts, hK, hA, hX, hini, hsc⟩ := C
  intro ws H locs ls stk hw hl hs hP hD hS
  dsimp only at hw hl hs ⊢
  simp only [rvStep] at h
  split at h
  · rename_i k0 st
    obtain ⟨x, stk1, rfl, ⟨q, hq, rfl⟩, hs1⟩ := rvRs_cons hs
    split at h
    · rename_i ci fs hc0
      cases hbe : Nat.beq ci a1 with
      | false => rw [hbe] at h; cases h
      | true =>
        rw [hbe] at h
        simp only [cond_true] at h
        have e1 := rv_beq hbe
        subst e1
        split at h
        · rename_i w hw0
          cases h
          obtain ⟨⟨a, e0⟩, hq1, vs, he, hvs⟩ := rvWo_get hw hc0
          have he : e0 = .inr (ci, vs) := he
          subst he
          have hqa := rvAd_ref hq1 hq
          subst hqa
          obtain ⟨y, hy1, hy2⟩ := rvRs_get hvs hw0
          cases hq2 : Nat.beq ci 100 with
          | true =>
            obtain ⟨r, hr, -⟩ := hP k0 _ hq1
            rw [show ci = 100 from rv_beq hq2] at hr
            exact absurd hr (by rw [rvCl_none (by omega)]; exact fun z => by cases z)
          | false =>
            have hk : (bif Nat.beq ci 100 then (bif Nat.beq a2 0 then rvW wi (.fieldLink own idx "java/lang/String" "value" "[B") else rvW wi (.fieldLink own idx "java/lang/String" "coder" "B")) else Nat.blt ci 13 && (Nat.blt a2 (rvNf ci) && rvW wi (.fieldLink own idx (rvFt ci a2).1 (rvFt ci a2).2.1 (rvFt ci a2).2.2.1))) = true := hk
            rw [hq2] at hk
            obtain ⟨g1, g2⟩ := rv_and (show (Nat.blt ci 13 && (Nat.blt a2 (rvNf ci) && rvW wi (.fieldLink own idx (rvFt ci a2).1 (rvFt ci a2).2.1 (rvFt ci a2).2.2.1))) = true from hk)
            obtain ⟨g2, g3⟩ := rv_and g2
            obtain ⟨⟨-, -, hin, -⟩, hcl, -⟩ := rvCl ci (rv_blt g1)
            exact va_get (D := D) hx hb hts hin hown hK hP k0 hq1 hcl a2 (rv_blt g2) (hts _ (rvW_ok g3)) (fun _ h9 => h9) hy1 hd (k ws H locs ls _ hw hl ⟨hy2, hs1⟩ hP hD hS)
        · cases h
    · cases h
  · rename_i j st
    obtain ⟨hc, rfl⟩ := rv_bif h
    obtain ⟨x, stk1, rfl, hx2, hs1⟩ := rvRs_cons hs
    have hx2 : x = .ref (ex 3 j) := hx2
    subst hx2
    have hj := rv_beq (rv_and hc).2
    subst hj
    have hc1 : Nat.beq a1 100 = true := (rv_and hc).1
    have hk : (bif Nat.beq a1 100 then (bif Nat.beq a2 0 then rvW wi (.fieldLink own idx "java/lang/String" "value" "[B") else rvW wi (.fieldLink own idx "java/lang/String" "coder" "B")) else Nat.blt a1 13 && (Nat.blt a2 (rvNf a1) && rvW wi (.fieldLink own idx (rvFt a1 a2).1 (rvFt a1 a2).2.1 (rvFt a1 a2).2.2.1))) = true := hk
    rw [hc1] at hk
    simp only [cond_true] at hk
    obtain ⟨-, -, -, -, hSt, -⟩ := hX
    obtain ⟨-, hco, hva, -⟩ := hSt.1 0 (by decide)
    cases h2 : Nat.beq a2 0 with
    | true =>
      rw [h2] at hk k
      exact vk_getf hx hb hva hS hown (hts _ (rvW_ok hk)) (fun _ h9 => h9) hd (k ws H locs ls _ hw hl ⟨rfl, hs1⟩ hP hD hS)
    | false =>
      rw [h2] at hk k
      exact vk_getf hx hb hco hS hown (hts _ (rvW_ok hk)) (fun _ h9 => h9) hd (k ws H locs ls _ hw hl ⟨rvR_K rfl, hs1⟩ hP hD hS)
  · cases h
set_option maxHeartbeats 4000000 in
set_option maxRecDepth 100000 in
theorem rs_putfield (C : rvCx p s m args meth c cc own mL D cT ex A ini sc) {BC BS a1 a2 a3 wi pc kc ks idx : Nat} {al st : List rvV} {aw : rvH} {o : rvS} (hd : decode cc pc = .ok (.putfield idx, 3)) (hk : rvAux own ini (.putfield idx) a1 a2 wi = true) (hBC : BC ≤ R.cells) (hBS : BS ≤ R.slots)
    (h : rvStep rvTy rvNf rvTxt sc BC BS mL (.putfield idx) a1 a2 a3 pc al st aw kc ks = some o) (k : rvG p l e R s m args below meth c Q D cT ex A mL o) : rvG p l e R s m args below meth c Q D cT ex A mL (pc, al, st, aw, kc, ks) := by
  obtain ⟨hx, hb, hml, hown, hts, hK, hA, hX, hini, hsc⟩ := C
  intro ws H locs ls stk hw hl hs hP hD hS
  dsimp only at hw hl hs ⊢
  simp only [rvStep] at h
  split at h
  · rename_i v k0 st
    obtain ⟨x, stk1, rfl, hx2, hs1⟩ := rvRs_cons hs
    obtain ⟨x1, stk2, rfl, ⟨q, hq, rfl⟩, hs2⟩ := rvRs_cons hs1
    split at h
    · rename_i ci fs hc0
      obtain ⟨hc, rfl⟩ := rv_bif h
      obtain ⟨c1, c2⟩ := rv_and hc
      obtain ⟨c2, c3⟩ := rv_and c2
      have e1 := rv_beq c1
      subst e1
      obtain ⟨⟨a, e0⟩, hq1, vs, he, hvs⟩ := rvWo_get hw hc0
      have he : e0 = .inr (ci, vs) := he
      subst he
      have hqa := rvAd_ref hq1 hq
      subst hqa
      obtain ⟨g1, g2⟩ := rv_and (show (Nat.blt ci 13 && (Nat.blt a2 (rvNf ci) && (rvW wi (.fieldLink own idx (rvFt ci a2).1 (rvFt ci a2).2.1 (rvFt ci a2).2.2.1) && (!(rvFt ci a2).2.2.2 || (ini && decide ((rvFt ci a2).1 = own)))))) = true from hk)
      obtain ⟨g2, g3⟩ := rv_and g2
      obtain ⟨g3, g4⟩ := rv_and g3
      obtain ⟨⟨-, -, hin, hty⟩, hcl, hnm⟩ := rvCl ci (rv_blt g1)
      obtain ⟨f1, f2⟩ := rvFit_ok c2 hx2
      have hlen : a2 < vs.length := by rw [← rvRs_len hvs]; exact rv_blt c3
      have hnew : ∀ (H1 : Heap) (locs1 : List Loc), va_P D vwCl (ws.set k0 (q, .inr (ci, vs.set a2 x))) H1 → va_D A (ws.set k0 (q, .inr (ci, vs.set a2 x))) → va_S A s.heap H1 locs1 → W p l e R s m args below meth c H1 locs1 kc ks Q (F0 m (pc + 3) ls stk2) := by
        intro H1 locs1 hP1 hD1 hS1
        have ea := rvAd_set (e := .inr (ci, vs.set a2 x)) hq1
        refine k _ H1 locs1 ls stk2 ?_ ?_ ?_ hP1 hD1 hS1
        · rw [ea]
          exact rvWo_set hw ⟨_, rfl, rvRs_set hvs hx2⟩
        · rw [ea]; exact hl
        · rw [ea]; exact hs2
      cases hfin : (rvFt ci a2).2.2.2 with
      | false =>
        exact va_put (D := D) hx hb hts hin (rvTy ci) (fun j hj => (hty j hj).2) hnm hown hK hP hD hS k0 hq1 hcl a2 (rv_blt g2) (hts _ (rvW_ok g3)) (fun _ h9 => h9) hfin (hty a2 (rv_blt g2)).2 f1 f2 hlen hd hnew
      | true =>
        rw [hfin] at g4
        obtain ⟨i1, i2⟩ := rv_and (show (ini && decide ((rvFt ci a2).1 = own)) = true from g4)
        exact va_putF (D := D) hx hb hts hin (rvTy ci) (fun j hj => (hty j hj).2) hnm hown hK hP hD hS k0 hq1 hcl a2 (rv_blt g2) (hts _ (rvW_ok g3)) (fun _ h9 => h9) hfin (hini i1) (of_decide_eq_true i2) (hty a2 (rv_blt g2)).2 f1 f2 hlen hd hnew
    · cases h
  · cases h
set_option maxHeartbeats 4000000 in
set_option maxRecDepth 100000 in
theorem rs_getstatic (C : rvCx p s m args meth c cc own mL D cT ex A ini sc) {BC BS a1 a2 a3 wi pc kc ks idx : Nat} {al st : List rvV} {aw : rvH} {o : rvS} (hd : decode cc pc = .ok (.getstatic idx, 3)) (hk : rvAux own ini (.getstatic idx) a1 a2 wi = true) (hBC : BC ≤ R.cells) (hBS : BS ≤ R.slots)
    (h : rvStep rvTy rvNf rvTxt sc BC BS mL (.getstatic idx) a1 a2 a3 pc al st aw kc ks = some o) (k : rvG p l e R s m args below meth c Q D cT ex A mL o) : rvG p l e R s m args below meth c Q D cT ex A mL (pc, al, st, aw, kc, ks) := by
  obtain ⟨hx, hb, hml, hown, hts, hK, hA, hX, hini, hsc⟩ := C
  intro ws H locs ls stk hw hl hs hP hD hS
  dsimp only at hw hl hs ⊢
  cases h
  obtain ⟨-, -, -, -, -, hZ, hZq⟩ := hX
  have hk : (bif Nat.beq a1 0 then rvW wi (.fieldLink own idx "java/lang/String" "COMPACT_STRINGS" "Z") else rvW wi (.fieldLink own idx "jdk/internal/util/Preconditions" "SIOOBE_FORMATTER" "Ljava/util/function/BiFunction;")) = true := hk
  cases h1 : Nat.beq a1 0 with
  | true =>
    rw [h1] at hk k
    exact va_gets hx hb hZ hS hown (hts _ (rvW_ok hk)) (fun _ h9 => h9) hd (k ws H locs ls _ hw hl ⟨rvR_K rfl, hs⟩ hP hD hS)
  | false =>
    rw [h1] at hk k
    rcases hZq with hZ | ⟨t, hZ⟩
    · exact va_gets hx hb hZ hS hown (hts _ (rvW_ok hk)) (fun _ h9 => h9) hd (k ws H locs ls _ hw hl ⟨Or.inl rfl, hs⟩ hP hD hS)
    · exact va_gets hx hb hZ hS hown (hts _ (rvW_ok hk)) (fun _ h9 => h9) hd (k ws H locs ls _ hw hl ⟨Or.inr ⟨t, rfl⟩, hs⟩ hP hD hS)
set_option maxHeartbeats 4000000 in
set_option maxRecDepth 100000 in
theorem rs_arraylength (C : rvCx p s m args meth c cc own mL D cT ex A ini sc) {BC BS a1 a2 a3 wi pc kc ks : Nat} {al st : List rvV} {aw : rvH} {o : rvS} (hd : decode cc pc = .ok (.arraylength, 1)) (hk : rvAux own ini (.arraylength) a1 a2 wi = true) (hBC : BC ≤ R.cells) (hBS : BS ≤ R.slots)
    (h : rvStep rvTy rvNf rvTxt sc BC BS mL (.arraylength) a1 a2 a3 pc al st aw kc ks = some o) (k : rvG p l e R s m args below meth c Q D cT ex A mL o) : rvG p l e R s m args below meth c Q D cT ex A mL (pc, al, st, aw, kc, ks) := by
  obtain ⟨hx, hb, hml, hown, hts, hK, hA, hX, hini, hsc⟩ := C
  intro ws H locs ls stk hw hl hs hP hD hS
  dsimp only at hw hl hs ⊢
  simp only [rvStep] at h
  split at h
  · rename_i k0 st
    obtain ⟨x, stk1, rfl, ⟨q, hq, rfl⟩, hs1⟩ := rvRs_cons hs
    split at h
    · rename_i q0 n d ov hc0
      obtain ⟨hc, rfl⟩ := rv_bif h
      have hn := rv_blt hc
      obtain ⟨⟨a, e0⟩, hq1, hce⟩ := rvWo_get hw hc0
      have hqa := rvAd_ref hq1 hq
      subst hqa
      have fin : ∀ (t0 : Nat) (cA : ClassId) (ty : FieldType) (z : vp_A), z.1 = n → ws[k0]? = some (q, .inl (cA, z)) → (rvTys cT)[t0]? = some (cA, ty) → W p l e R s m args below meth c H locs kc ks Q (F0 m pc ls (.ref q :: stk1)) := by
        intro t0 cA ty z hz h1 h2
        exact va_alen (D := D) hx hb hK hP k0 t0 h1 h2 (v := Int32.ofNat n) (by rw [hz]) hd (k ws H locs ls _ hw hl ⟨rvR_K (nI_toInt (n := n) hn), hs1⟩ hP hD hS)
      rcases hce with ⟨h0, f, he, -⟩ | ⟨rfl, f, he⟩ | ⟨h0, f, he, -⟩
      · have he : e0 = .inl (cT q0, n, .inl f) := he
        subst he
        match q0, h0, hq1 with
        | 0, _, hq1 => exact fin 0 _ .int _ rfl hq1 rfl
        | 1, _, hq1 => exact fin 1 _ .byte _ rfl hq1 rfl
        | 2, _, hq1 => exact fin 2 _ .boolean _ rfl hq1 rfl
      · have he : e0 = .inl (cT 3, n, .inr (.inl f)) := he
        subst he
        exact fin 3 _ .long _ rfl hq1 rfl
      · have he : e0 = .inl (cT q0, n, .inr (.inr (.inr (.inr f)))) := he
        subst he
        rcases h0 with rfl | rfl
        · exact fin 4 _ (.object RX2) _ rfl hq1 rfl
        · exact fin 5 _ (.object RX6) _ rfl hq1 rfl
    · cases h
  · rename_i j st
    obtain ⟨hc, rfl⟩ := rv_bif h
    have hj := rv_beq hc
    subst hj
    obtain ⟨x, stk1, rfl, hx2, hs1⟩ := rvRs_cons hs
    have hx2 : x = .ref (ex 4 0) := hx2
    subst hx2
    obtain ⟨-, -, -, -, hSt, -⟩ := hX
    obtain ⟨-, -, -, hT⟩ := hSt.1 0 (by decide)
    exact va_tlen (v := Int32.ofNat rvTxt.length) hx hb hT hS rfl hd (k ws H locs ls _ hw hl ⟨rvR_K (by decide +kernel), hs1⟩ hP hD hS)
  · cases h
set_option maxHeartbeats 4000000 in
set_option maxRecDepth 100000 in
theorem rs_iaload (C : rvCx p s m args meth c cc own mL D cT ex A ini sc) {BC BS a1 a2 a3 wi pc kc ks : Nat} {al st : List rvV} {aw : rvH} {o : rvS} (hd : decode cc pc = .ok (.iaload, 1)) (hk : rvAux own ini (.iaload) a1 a2 wi = true) (hBC : BC ≤ R.cells) (hBS : BS ≤ R.slots)
    (h : rvStep rvTy rvNf rvTxt sc BC BS mL (.iaload) a1 a2 a3 pc al st aw kc ks = some o) (k : rvG p l e R s m args below meth c Q D cT ex A mL o) : rvG p l e R s m args below meth c Q D cT ex A mL (pc, al, st, aw, kc, ks) := by
  obtain ⟨hx, hb, hml, hown, hts, hK, hA, hX, hini, hsc⟩ := C
  intro ws H locs ls stk hw hl hs hP hD hS
  dsimp only at hw hl hs ⊢
  simp only [rvStep] at h
  split at h
  · rename_i a0 k0 st
    obtain ⟨y1, stk1, rfl, ⟨n1, rfl, p1, q1⟩, hs1⟩ := rvRs_cons hs
    obtain ⟨x, stk2, rfl, ⟨q, hq, rfl⟩, hs2⟩ := rvRs_cons hs1
    split at h
    · rename_i n d ov hc0
      obtain ⟨⟨a, e0⟩, hq1, hce⟩ := rvWo_get hw hc0
      have hqa := rvAd_ref hq1 hq
      subst hqa
      split at h
      · rename_i j hj
        cases h
        obtain ⟨i1, i2, i3⟩ := rvIdx_ok hj p1 q1
        rcases hce with ⟨-, f, he, hf⟩ | ⟨h0, -⟩ | ⟨h0, -⟩
        · have he : e0 = .inl (cT 0, n, .inl f) := he
          subst he
          exact va_iald (D := D) hx hb hK hP k0 0 hq1 rfl i1 hd (k ws H locs ls _ hw hl ⟨by rw [i2]; exact hf j i3, hs2⟩ hP hD hS)
        · exact absurd h0 (by decide)
        · exact absurd h0 (by decide)
      · cases h
    · cases h
  · rename_i a0 z st
    obtain ⟨y1, stk1, rfl, ⟨n1, rfl, p1, q1⟩, hs1⟩ := rvRs_cons hs
    obtain ⟨x, stk2, rfl, hx2, hs2⟩ := rvRs_cons hs1
    split at h
    · rename_i j hj
      split at h
      · rename_i a ha
        obtain ⟨hc, rfl⟩ := rv_bif h
        obtain ⟨i1, i2, i3⟩ := rvIdx_ok hj p1 q1
        have hz := rv_beq hc
        subst hz
        have hx2 : x = .ref (ex 5 0) := hx2
        subst hx2
        rcases hsc with rfl | ⟨xs, h1, h2, h3, h4⟩
        · simp at ha
        · exact va_sld hx hb h1 h2 h3 hS i1 hd (k ws H locs ls _ hw hl ⟨⟨_, rfl, by rw [i2]; exact (h4 j a ha).1, by rw [i2]; exact (h4 j a ha).2⟩, hs2⟩ hP hD hS)
      · cases h
    · cases h
  · cases h
set_option maxHeartbeats 4000000 in
set_option maxRecDepth 100000 in
theorem rs_baload (C : rvCx p s m args meth c cc own mL D cT ex A ini sc) {BC BS a1 a2 a3 wi pc kc ks : Nat} {al st : List rvV} {aw : rvH} {o : rvS} (hd : decode cc pc = .ok (.baload, 1)) (hk : rvAux own ini (.baload) a1 a2 wi = true) (hBC : BC ≤ R.cells) (hBS : BS ≤ R.slots)
    (h : rvStep rvTy rvNf rvTxt sc BC BS mL (.baload) a1 a2 a3 pc al st aw kc ks = some o) (k : rvG p l e R s m args below meth c Q D cT ex A mL o) : rvG p l e R s m args below meth c Q D cT ex A mL (pc, al, st, aw, kc, ks) := by
  obtain ⟨hx, hb, hml, hown, hts, hK, hA, hX, hini, hsc⟩ := C
  intro ws H locs ls stk hw hl hs hP hD hS
  dsimp only at hw hl hs ⊢
  simp only [rvStep] at h
  split at h
  · rename_i a0 k0 st
    obtain ⟨y1, stk1, rfl, ⟨n1, rfl, p1, q1⟩, hs1⟩ := rvRs_cons hs
    obtain ⟨x, stk2, rfl, ⟨q, hq, rfl⟩, hs2⟩ := rvRs_cons hs1
    split at h
    · rename_i n d ov hc0
      obtain ⟨⟨a, e0⟩, hq1, hce⟩ := rvWo_get hw hc0
      have hqa := rvAd_ref hq1 hq
      subst hqa
      split at h
      · rename_i j hj
        cases h
        obtain ⟨i1, i2, i3⟩ := rvIdx_ok hj p1 q1
        rcases hce with ⟨-, f, he, hf⟩ | ⟨h0, -⟩ | ⟨h0, -⟩
        · have he : e0 = .inl (cT 1, n, .inl f) := he
          subst he
          exact va_bald (D := D) hx hb hK hP k0 1 hq1 rfl i1 hd (k ws H locs ls _ hw hl ⟨by rw [i2]; exact hf j i3, hs2⟩ hP hD hS)
        · exact absurd h0 (by decide)
        · exact absurd h0 (by decide)
      · cases h
    · rename_i n d ov hc0
      obtain ⟨⟨a, e0⟩, hq1, hce⟩ := rvWo_get hw hc0
      have hqa := rvAd_ref hq1 hq
      subst hqa
      split at h
      · rename_i j hj
        cases h
        obtain ⟨i1, i2, i3⟩ := rvIdx_ok hj p1 q1
        rcases hce with ⟨-, f, he, hf⟩ | ⟨h0, -⟩ | ⟨h0, -⟩
        · have he : e0 = .inl (cT 2, n, .inl f) := he
          subst he
          exact va_zald (D := D) hx hb hK hP k0 2 hq1 rfl i1 hd (k ws H locs ls _ hw hl ⟨by rw [i2]; exact hf j i3, hs2⟩ hP hD hS)
        · exact absurd h0 (by decide)
        · exact absurd h0 (by decide)
      · cases h
    · cases h
  · rename_i a0 z st
    obtain ⟨y1, stk1, rfl, ⟨n1, rfl, p1, q1⟩, hs1⟩ := rvRs_cons hs
    obtain ⟨x, stk2, rfl, hx2, hs2⟩ := rvRs_cons hs1
    split at h
    · rename_i j hj
      split at h
      · rename_i b hb0
        obtain ⟨hc, rfl⟩ := rv_bif h
        have hz := rv_beq hc
        subst hz
        obtain ⟨i1, i2, i3⟩ := rvIdx_ok hj p1 q1
        have hx2 : x = .ref (ex 4 0) := hx2
        subst hx2
        obtain ⟨-, -, -, -, hSt, -⟩ := hX
        obtain ⟨-, -, -, hT⟩ := hSt.1 0 (by decide)
        have hval : ((rvTxt.map Int32.ofInt).getD j 0).toInt = b := by
          have e1 : (rvTxt.map Int32.ofInt).getD j 0 = Int32.ofInt b := by
            rw [List.getD_eq_getElem?_getD, List.getElem?_map, hb0]
            rfl
          rw [e1]
          have hall : ∀ z ∈ rvTxt, (Int32.ofInt z).toInt = z := by decide +kernel
          exact hall b (List.mem_of_getElem? hb0)
        exact va_tb hx hb hT hS i1 (v := .int ((rvTxt.map Int32.ofInt).getD j 0)) (by rw [i2]; rfl) hd (k ws H locs ls _ hw hl ⟨rvR_K hval, hs2⟩ hP hD hS)
      · cases h
    · cases h
  · cases h
set_option maxHeartbeats 4000000 in
set_option maxRecDepth 100000 in
theorem rs_laload (C : rvCx p s m args meth c cc own mL D cT ex A ini sc) {BC BS a1 a2 a3 wi pc kc ks : Nat} {al st : List rvV} {aw : rvH} {o : rvS} (hd : decode cc pc = .ok (.laload, 1)) (hk : rvAux own ini (.laload) a1 a2 wi = true) (hBC : BC ≤ R.cells) (hBS : BS ≤ R.slots)
    (h : rvStep rvTy rvNf rvTxt sc BC BS mL (.laload) a1 a2 a3 pc al st aw kc ks = some o) (k : rvG p l e R s m args below meth c Q D cT ex A mL o) : rvG p l e R s m args below meth c Q D cT ex A mL (pc, al, st, aw, kc, ks) := by
  obtain ⟨hx, hb, hml, hown, hts, hK, hA, hX, hini, hsc⟩ := C
  intro ws H locs ls stk hw hl hs hP hD hS
  dsimp only at hw hl hs ⊢
  simp only [rvStep] at h
  split at h
  · rename_i a0 k0 st
    obtain ⟨y1, stk1, rfl, ⟨n1, rfl, p1, q1⟩, hs1⟩ := rvRs_cons hs
    obtain ⟨x, stk2, rfl, ⟨q, hq, rfl⟩, hs2⟩ := rvRs_cons hs1
    split at h
    · rename_i n d ov hc0
      obtain ⟨⟨a, e0⟩, hq1, hce⟩ := rvWo_get hw hc0
      have hqa := rvAd_ref hq1 hq
      subst hqa
      split at h
      · rename_i j hj
        cases h
        obtain ⟨i1, i2, i3⟩ := rvIdx_ok hj p1 q1
        rcases hce with ⟨h0, -⟩ | ⟨-, f, he⟩ | ⟨h0, -⟩
        · exact absurd h0 (by decide)
        · have he : e0 = .inl (cT 3, n, .inr (.inl f)) := he
          subst he
          exact va_lald (D := D) hx hb hK hP k0 3 hq1 rfl i1 hd (k ws H locs ls _ hw hl ⟨⟨_, rfl⟩, hs2⟩ hP hD hS)
        · exact absurd h0 (by decide)
      · cases h
    · cases h
  · cases h
set_option maxHeartbeats 4000000 in
set_option maxRecDepth 100000 in
theorem rs_aaload (C : rvCx p s m args meth c cc own mL D cT ex A ini sc) {BC BS a1 a2 a3 wi pc kc ks : Nat} {al st : List rvV} {aw : rvH} {o : rvS} (hd : decode cc pc = .ok (.aaload, 1)) (hk : rvAux own ini (.aaload) a1 a2 wi = true) (hBC : BC ≤ R.cells) (hBS : BS ≤ R.slots)
    (h : rvStep rvTy rvNf rvTxt sc BC BS mL (.aaload) a1 a2 a3 pc al st aw kc ks = some o) (k : rvG p l e R s m args below meth c Q D cT ex A mL o) : rvG p l e R s m args below meth c Q D cT ex A mL (pc, al, st, aw, kc, ks) := by
  obtain ⟨hx, hb, hml, hown, hts, hK, hA, hX, hini, hsc⟩ := C
  intro ws H locs ls stk hw hl hs hP hD hS
  dsimp only at hw hl hs ⊢
  simp only [rvStep] at h
  split at h
  · rename_i a0 k0 st
    obtain ⟨y1, stk1, rfl, ⟨n1, rfl, p1, q1⟩, hs1⟩ := rvRs_cons hs
    obtain ⟨x, stk2, rfl, ⟨q, hq, rfl⟩, hs2⟩ := rvRs_cons hs1
    split at h
    · rename_i n d ov hc0
      obtain ⟨⟨a, e0⟩, hq1, hce⟩ := rvWo_get hw hc0
      have hqa := rvAd_ref hq1 hq
      subst hqa
      split at h
      · rename_i j hj
        cases h
        obtain ⟨i1, i2, i3⟩ := rvIdx_ok hj p1 q1
        rcases hce with ⟨h0, -⟩ | ⟨h0, -⟩ | ⟨-, f, he, hf⟩
        · exact absurd h0 (by decide)
        · exact absurd h0 (by decide)
        · have he : e0 = .inl (cT 4, n, .inr (.inr (.inr (.inr f)))) := he
          subst he
          exact va_aldq (D := D) (C := RX2) hx hb hK hP k0 4 hq1 rfl i1 hd (k ws H locs ls _ hw hl ⟨by rw [i2]; exact hf j i3, hs2⟩ hP hD hS)
      · cases h
    · rename_i n d ov hc0
      obtain ⟨⟨a, e0⟩, hq1, hce⟩ := rvWo_get hw hc0
      have hqa := rvAd_ref hq1 hq
      subst hqa
      split at h
      · rename_i j hj
        cases h
        obtain ⟨i1, i2, i3⟩ := rvIdx_ok hj p1 q1
        rcases hce with ⟨h0, -⟩ | ⟨h0, -⟩ | ⟨-, f, he, hf⟩
        · exact absurd h0 (by decide)
        · exact absurd h0 (by decide)
        · have he : e0 = .inl (cT 5, n, .inr (.inr (.inr (.inr f)))) := he
          subst he
          exact va_aldq (D := D) (C := RX6) hx hb hK hP k0 5 hq1 rfl i1 hd (k ws H locs ls _ hw hl ⟨by rw [i2]; exact hf j i3, hs2⟩ hP hD hS)
      · cases h
    · cases h
  · cases h
/-- a row of ints behind a store -/
theorem rvRow_up {ad : List Nat} {d : rvV} {ov : List (Nat × rvV)} {n j : Nat} {v : rvV} {f : Nat → Int32} {y : Int32} (hf : ∀ i, i < n → rvR ad ex (rvLook d ov i) (.int (f i))) (hv : rvR ad ex v (.int y)) : ∀ i, i < n → rvR ad ex (rvLook d (rvUp ov j v) i) (.int (upd f j y i)) := by
  intro i hi
  rw [rvLook_up]
  by_cases h : i = j
  · rw [if_pos h]
    show rvR ad ex v (.int (if i = j then y else f i))
    rw [if_pos h]
    exact hv
  · rw [if_neg h]
    show rvR ad ex (rvLook d ov i) (.int (if i = j then y else f i))
    rw [if_neg h]
    exact hf i hi
theorem rvRow_upq {ad : List Nat} {d : rvV} {ov : List (Nat × rvV)} {n j : Nat} {v : rvV} {f : Nat → Option Nat} {y : Option Nat} (hf : ∀ i, i < n → rvR ad ex (rvLook d ov i) (va_rf (f i))) (hv : rvR ad ex v (va_rf y)) : ∀ i, i < n → rvR ad ex (rvLook d (rvUp ov j v) i) (va_rf (va_up f j y i)) := by
  intro i hi
  rw [rvLook_up]
  by_cases h : i = j
  · rw [if_pos h, h, va_up_self]
    exact hv
  · rw [if_neg h, va_up_ne _ _ h]
    exact hf i hi
set_option maxHeartbeats 4000000 in
set_option maxRecDepth 100000 in
theorem rs_iastore (C : rvCx p s m args meth c cc own mL D cT ex A ini sc) {BC BS a1 a2 a3 wi pc kc ks : Nat} {al st : List rvV} {aw : rvH} {o : rvS} (hd : decode cc pc = .ok (.iastore, 1)) (hk : rvAux own ini (.iastore) a1 a2 wi = true) (hBC : BC ≤ R.cells) (hBS : BS ≤ R.slots)
    (h : rvStep rvTy rvNf rvTxt sc BC BS mL (.iastore) a1 a2 a3 pc al st aw kc ks = some o) (k : rvG p l e R s m args below meth c Q D cT ex A mL o) : rvG p l e R s m args below meth c Q D cT ex A mL (pc, al, st, aw, kc, ks) := by
  obtain ⟨hx, hb, hml, hown, hts, hK, hA, hX, hini, hsc⟩ := C
  intro ws H locs ls stk hw hl hs hP hD hS
  dsimp only at hw hl hs ⊢
  simp only [rvStep] at h
  split at h
  · rename_i v0 a0 k0 st
    obtain ⟨y0, stk0, rfl, ⟨n0, rfl, p0, q0⟩, hs0⟩ := rvRs_cons hs
    obtain ⟨y1, stk1, rfl, ⟨n1, rfl, p1, q1⟩, hs1⟩ := rvRs_cons hs0
    obtain ⟨x, stk2, rfl, ⟨q, hq, rfl⟩, hs2⟩ := rvRs_cons hs1
    split at h
    · rename_i n d ov hc0
      obtain ⟨⟨a, e0⟩, hq1, hce⟩ := rvWo_get hw hc0
      have hqa := rvAd_ref hq1 hq
      subst hqa
      split at h
      · rename_i j hj
        cases h
        obtain ⟨i1, i2, i3⟩ := rvIdx_ok hj p1 q1
        rcases hce with ⟨-, f, he, hf⟩ | ⟨h0, -⟩ | ⟨h0, -⟩
        · have he : e0 = .inl (cT 0, n, .inl f) := he
          subst he
          refine va_iast (D := D) hx hb hK hP hD hS k0 0 hq1 rfl i1 hd (fun H1 locs1 hP1 hD1 hS1 => ?_)
          have ea := rvAd_set (e := .inl (cT 0, n, .inl (upd f n1.toNatClampNeg n0))) hq1
          refine k _ H1 locs1 ls stk2 ?_ ?_ ?_ hP1 hD1 hS1
          · rw [ea]
            refine rvWo_set hw (Or.inl ⟨by decide, _, rfl, ?_⟩)
            rw [i2]
            exact rvRow_up hf ⟨n0, rfl, p0, q0⟩
          · rw [ea]; exact hl
          · rw [ea]; exact hs2
        · exact absurd h0 (by decide)
        · exact absurd h0 (by decide)
      · cases h
    · cases h
  · cases h
set_option maxHeartbeats 4000000 in
set_option maxRecDepth 100000 in
theorem rs_bastore (C : rvCx p s m args meth c cc own mL D cT ex A ini sc) {BC BS a1 a2 a3 wi pc kc ks : Nat} {al st : List rvV} {aw : rvH} {o : rvS} (hd : decode cc pc = .ok (.bastore, 1)) (hk : rvAux own ini (.bastore) a1 a2 wi = true) (hBC : BC ≤ R.cells) (hBS : BS ≤ R.slots)
    (h : rvStep rvTy rvNf rvTxt sc BC BS mL (.bastore) a1 a2 a3 pc al st aw kc ks = some o) (k : rvG p l e R s m args below meth c Q D cT ex A mL o) : rvG p l e R s m args below meth c Q D cT ex A mL (pc, al, st, aw, kc, ks) := by
  obtain ⟨hx, hb, hml, hown, hts, hK, hA, hX, hini, hsc⟩ := C
  intro ws H locs ls stk hw hl hs hP hD hS
  dsimp only at hw hl hs ⊢
  simp only [rvStep] at h
  split at h
  · rename_i v0 a0 k0 st
    obtain ⟨y0, stk0, rfl, ⟨n0, rfl, p0, q0⟩, hs0⟩ := rvRs_cons hs
    obtain ⟨y1, stk1, rfl, ⟨n1, rfl, p1, q1⟩, hs1⟩ := rvRs_cons hs0
    obtain ⟨x, stk2, rfl, ⟨q, hq, rfl⟩, hs2⟩ := rvRs_cons hs1
    split at h
    · rename_i n d ov hc0
      obtain ⟨⟨a, e0⟩, hq1, hce⟩ := rvWo_get hw hc0
      have hqa := rvAd_ref hq1 hq
      subst hqa
      split at h
      · rename_i j hj
        obtain ⟨hc, rfl⟩ := rv_bif h
        have hna : vp_nar .byte n0 = n0 := by
          obtain ⟨g1, -⟩ := rvFit_ok (ad := rvAd ws) (ex := ex) (ty := .byte) (v := .inl v0) (x := .int n0) hc ⟨n0, rfl, p0, q0⟩
          exact Value.int.inj g1
        obtain ⟨i1, i2, i3⟩ := rvIdx_ok hj p1 q1
        rcases hce with ⟨-, f, he, hf⟩ | ⟨h0, -⟩ | ⟨h0, -⟩
        · have he : e0 = .inl (cT 1, n, .inl f) := he
          subst he
          refine va_bast (D := D) hx hb hK hP hD hS k0 1 hq1 rfl i1 hd (fun H1 locs1 hP1 hD1 hS1 => ?_)
          have ea := rvAd_set (e := .inl (cT 1, n, .inl (upd f n1.toNatClampNeg (vp_nar .byte n0)))) hq1
          refine k _ H1 locs1 ls stk2 ?_ ?_ ?_ hP1 hD1 hS1
          · rw [ea]
            refine rvWo_set hw (Or.inl ⟨by decide, _, rfl, ?_⟩)
            rw [i2]
            exact rvRow_up hf ⟨n0, by rw [hna], p0, q0⟩
          · rw [ea]; exact hl
          · rw [ea]; exact hs2
        · exact absurd h0 (by decide)
        · exact absurd h0 (by decide)
      · cases h
    · rename_i n d ov hc0
      obtain ⟨⟨a, e0⟩, hq1, hce⟩ := rvWo_get hw hc0
      have hqa := rvAd_ref hq1 hq
      subst hqa
      split at h
      · rename_i j hj
        obtain ⟨hc, rfl⟩ := rv_bif h
        have hna : vp_nar .boolean n0 = n0 := by
          obtain ⟨g1, -⟩ := rvFit_ok (ad := rvAd ws) (ex := ex) (ty := .boolean) (v := .inl v0) (x := .int n0) hc ⟨n0, rfl, p0, q0⟩
          exact Value.int.inj g1
        obtain ⟨i1, i2, i3⟩ := rvIdx_ok hj p1 q1
        rcases hce with ⟨-, f, he, hf⟩ | ⟨h0, -⟩ | ⟨h0, -⟩
        · have he : e0 = .inl (cT 2, n, .inl f) := he
          subst he
          refine va_zast (D := D) hx hb hK hP hD hS k0 2 hq1 rfl i1 hd (fun H1 locs1 hP1 hD1 hS1 => ?_)
          have ea := rvAd_set (e := .inl (cT 2, n, .inl (upd f n1.toNatClampNeg (vp_nar .boolean n0)))) hq1
          refine k _ H1 locs1 ls stk2 ?_ ?_ ?_ hP1 hD1 hS1
          · rw [ea]
            refine rvWo_set hw (Or.inl ⟨by decide, _, rfl, ?_⟩)
            rw [i2]
            exact rvRow_up hf ⟨n0, by rw [hna], p0, q0⟩
          · rw [ea]; exact hl
          · rw [ea]; exact hs2
        · exact absurd h0 (by decide)
        · exact absurd h0 (by decide)
      · cases h
    · cases h
  · cases h
set_option maxHeartbeats 4000000 in
set_option maxRecDepth 100000 in
theorem rs_lastore (C : rvCx p s m args meth c cc own mL D cT ex A ini sc) {BC BS a1 a2 a3 wi pc kc ks : Nat} {al st : List rvV} {aw : rvH} {o : rvS} (hd : decode cc pc = .ok (.lastore, 1)) (hk : rvAux own ini (.lastore) a1 a2 wi = true) (hBC : BC ≤ R.cells) (hBS : BS ≤ R.slots)
    (h : rvStep rvTy rvNf rvTxt sc BC BS mL (.lastore) a1 a2 a3 pc al st aw kc ks = some o) (k : rvG p l e R s m args below meth c Q D cT ex A mL o) : rvG p l e R s m args below meth c Q D cT ex A mL (pc, al, st, aw, kc, ks) := by
  obtain ⟨hx, hb, hml, hown, hts, hK, hA, hX, hini, hsc⟩ := C
  intro ws H locs ls stk hw hl hs hP hD hS
  dsimp only at hw hl hs ⊢
  simp only [rvStep] at h
  split at h
  · rename_i z0 a0 k0 st
    obtain ⟨y0, stk0, rfl, ⟨n0, rfl⟩, hs0⟩ := rvRs_cons hs
    obtain ⟨y1, stk1, rfl, ⟨n1, rfl, p1, q1⟩, hs1⟩ := rvRs_cons hs0
    obtain ⟨x, stk2, rfl, ⟨q, hq, rfl⟩, hs2⟩ := rvRs_cons hs1
    split at h
    · rename_i n d ov hc0
      obtain ⟨⟨a, e0⟩, hq1, hce⟩ := rvWo_get hw hc0
      have hqa := rvAd_ref hq1 hq
      subst hqa
      split at h
      · rename_i j hj
        cases h
        obtain ⟨i1, i2, i3⟩ := rvIdx_ok hj p1 q1
        rcases hce with ⟨h0, -⟩ | ⟨-, f, he⟩ | ⟨h0, -⟩
        · exact absurd h0 (by decide)
        · have he : e0 = .inl (cT 3, n, .inr (.inl f)) := he
          subst he
          refine va_last (D := D) hx hb hK hP hD hS k0 3 hq1 rfl i1 hd (fun H1 locs1 hP1 hD1 hS1 => ?_)
          have ea := rvAd_set (e := .inl (cT 3, n, .inr (.inl (vp_updL f n1.toNatClampNeg n0)))) hq1
          have eb : aw.set k0 (.inr (3, n, d, ov)) = aw := by
            apply List.ext_getElem?
            intro i
            rw [List.getElem?_set]
            by_cases hki : k0 = i
            · subst hki
              have hl9 := (List.getElem?_eq_some_iff.mp hc0).1
              simp [hl9]
              exact (List.getElem?_eq_some_iff.mp hc0).2.symm
            · simp [hki]
          refine k _ H1 locs1 ls stk2 ?_ ?_ ?_ hP1 hD1 hS1
          · rw [ea]
            have := rvWo_set (k := k0) (c := .inr (3, n, d, ov)) (q := (q, .inl (cT 3, n, .inr (.inl (vp_updL f n1.toNatClampNeg n0))))) hw (Or.inr (Or.inl ⟨rfl, _, rfl⟩))
            rw [eb] at this
            exact this
          · rw [ea]; exact hl
          · rw [ea]; exact hs2
        · exact absurd h0 (by decide)
      · cases h
    · cases h
  · cases h
end RVH
end
section
section RVN
variable {p : Program} {l : Launch} {e : Env} {R : Room} {s : State} {m : MethodId} {args : Array Value} {below : List Frame} {meth : Method} {c : Code} {Q : State → Prop} {cc : ByteArray} {own : String} {mL : Nat} {D : va_G} {cT : Nat → ClassId} {ex : Nat → Nat → Nat} {A : Nat → Prop} {sc : List (Int × Int)} {ini : Bool}
theorem rvRs_map {ad : List Nat} {f : Nat → rvV} {g : Nat → Value} : ∀ (l : List Nat), (∀ k ∈ l, rvR ad ex (f k) (g k)) → rvRs ad ex (l.map f) (l.map g)
  | [], _ => trivial
  | a :: t, h => ⟨h a List.mem_cons_self, rvRs_map t (fun k hk => h k (List.mem_cons_of_mem _ hk))⟩
theorem rvDef_ok {ad : List Nat} {ty : FieldType} (h : rvTyOk ty = true) : rvR ad ex (rvDef ty) (defaultValue ty) := by
  cases ty with
  | int => exact rvR_K rfl
  | boolean => exact rvR_K rfl
  | long => exact ⟨_, rfl⟩
  | object _ => rfl
  | array _ => rfl
  | byte => cases h
  | char => cases h
  | short => cases h
  | float => cases h
  | double => cases h
theorem rv_bytes {a b : Nat} (h1 : a ≤ 100000) (h2 : b ≤ 8) : a * b ≤ 536870912 := Nat.le_trans (Nat.mul_le_mul h1 h2) (by decide)
/-- behind the making of a cell -/
theorem rvPush {ws : va_W} {q kc ks pc : Nat} {e0 : va_E} {cn : rvC} {al st : List rvV} {aw : rvH} {ls : Array Slot} {stk : List Value} {H1 : Heap} {locs : List Loc} (k : rvG p l e R s m args below meth c Q D cT ex A mL (pc, al, .inr (2, aw.length) :: st, aw ++ [cn], kc, ks))
    (hw : rvWo cT (rvAd ws) ex aw ws) (hl : rvLo (rvAd ws) ex mL al ls) (hs : rvRs (rvAd ws) ex st stk) (hc : rvCe cT (rvAd ws) ex cn e0) (hP : va_P D vwCl (ws ++ [(q, e0)]) H1) (hD : va_D A (ws ++ [(q, e0)])) (hS : va_S A s.heap H1 locs) :
    W p l e R s m args below meth c H1 locs kc ks Q (F0 m pc ls (.ref q :: stk)) := by
  have ea : rvAd (ws ++ [(q, e0)]) = rvAd ws ++ [q] := rvAd_push
  have en : aw.length = (rvAd ws).length := by rw [rvWo_len hw]; simp
  refine k _ H1 locs ls _ ?_ ?_ ⟨⟨q, ?_, rfl⟩, ?_⟩ hP hD hS
  · rw [ea]
    exact rvWo_push (rvWo_mono _ hw) (rvCe_mono _ hc)
  · rw [ea]; exact rvLo_mono _ hl
  · rw [ea, en, List.getElem?_append_right (Nat.le_refl _)]
    simp
  · rw [ea]; exact rvRs_mono _ hs
set_option maxHeartbeats 4000000 in
set_option maxRecDepth 100000 in
theorem rs_aastore (C : rvCx p s m args meth c cc own mL D cT ex A ini sc) {BC BS a1 a2 a3 wi pc kc ks : Nat} {al st : List rvV} {aw : rvH} {o : rvS} (hd : decode cc pc = .ok (.aastore, 1)) (hk : rvAux own ini (.aastore) a1 a2 wi = true) (hBC : BC ≤ R.cells) (hBS : BS ≤ R.slots)
    (h : rvStep rvTy rvNf rvTxt sc BC BS mL (.aastore) a1 a2 a3 pc al st aw kc ks = some o) (k : rvG p l e R s m args below meth c Q D cT ex A mL o) : rvG p l e R s m args below meth c Q D cT ex A mL (pc, al, st, aw, kc, ks) := by
  obtain ⟨hx, hb, hml, hown, hts, hK, hA, hX, hini, hsc⟩ := C
  intro ws H locs ls stk hw hl hs hP hD hS
  dsimp only at hw hl hs ⊢
  simp only [rvStep] at h
  split at h
  · rename_i v0 a0 k0 st
    obtain ⟨y0, stk0, rfl, hy0, hs0⟩ := rvRs_cons hs
    obtain ⟨y1, stk1, rfl, ⟨n1, rfl, p1, q1⟩, hs1⟩ := rvRs_cons hs0
    obtain ⟨x, stk2, rfl, ⟨q, hq, rfl⟩, hs2⟩ := rvRs_cons hs1
    split at h
    · rename_i kd n d ov hc0
      obtain ⟨⟨a, e0⟩, hq1, hce⟩ := rvWo_get hw hc0
      have hqa := rvAd_ref hq1 hq
      subst hqa
      split at h
      · rename_i j hj
        obtain ⟨i1, i2, i3⟩ := rvIdx_ok hj p1 q1
        have fin : ∀ (f : Nat → Option Nat) (y : Option Nat) (v : rvV) (H1 : Heap) (locs1 : List Loc), (kd = 4 ∨ kd = 5) → ws[k0]? = some (q, .inl (cT kd, n, .inr (.inr (.inr (.inr f))))) → (∀ i, i < n → rvR (rvAd ws) ex (rvLook d ov i) (va_rf (f i))) → rvR (rvAd ws) ex v (va_rf y) → rvG p l e R s m args below meth c Q D cT ex A mL (pc + 1, al, st, aw.set k0 (.inr (kd, n, d, rvUp ov j v)), kc, ks) →
            va_P D vwCl (ws.set k0 (q, .inl (cT kd, n, .inr (.inr (.inr (.inr (va_up f n1.toNatClampNeg y))))))) H1 → va_D A (ws.set k0 (q, .inl (cT kd, n, .inr (.inr (.inr (.inr (va_up f n1.toNatClampNeg y))))))) → va_S A s.heap H1 locs1 → W p l e R s m args below meth c H1 locs1 kc ks Q (F0 m (pc + 1) ls stk2) := by
          intro f y v H1 locs1 hkd hq9 hf hv k9 hP1 hD1 hS1
          have ea := rvAd_set (e := .inl (cT kd, n, .inr (.inr (.inr (.inr (va_up f n1.toNatClampNeg y)))))) hq9
          refine k9 _ H1 locs1 ls stk2 ?_ ?_ ?_ hP1 hD1 hS1
          · rw [ea]
            refine rvWo_set hw (Or.inr (Or.inr ⟨hkd, _, rfl, ?_⟩))
            rw [i2]
            exact rvRow_upq hf hv
          · rw [ea]; exact hl
          · rw [ea]; exact hs2
        split at h
        · rename_i z
          obtain ⟨hc, rfl⟩ := rv_bif h
          have hkd : kd = 4 ∨ kd = 5 := (rv_or' hc).elim (fun q9 => Or.inl (rv_beq q9)) (fun q9 => Or.inr (rv_beq q9))
          have hy0 : y0 = .null := hy0
          subst hy0
          rcases hce with ⟨h0, -⟩ | ⟨h0, -⟩ | ⟨-, f, he, hf⟩
          · rcases hkd with q9 | q9
            · rw [q9] at h0; exact absurd h0 (by decide)
            · rw [q9] at h0; exact absurd h0 (by decide)
          · rcases hkd with q9 | q9
            · rw [q9] at h0; exact absurd h0 (by decide)
            · rw [q9] at h0; exact absurd h0 (by decide)
          · have he : e0 = .inl (cT kd, n, .inr (.inr (.inr (.inr f)))) := he
            subst he
            rcases hkd with q9 | q9
            · subst q9
              exact va_astqN (D := D) (C := RX2) hx hb hK hP hD hS k0 4 hq1 rfl i1 hd (fun H1 locs1 hP1 hD1 hS1 => fin f none (.inr (0, z)) H1 locs1 (Or.inl rfl) hq1 hf rfl k hP1 hD1 hS1)
            · subst q9
              exact va_astqN (D := D) (C := RX6) hx hb hK hP hD hS k0 5 hq1 rfl i1 hd (fun H1 locs1 hP1 hD1 hS1 => fin f none (.inr (0, z)) H1 locs1 (Or.inr rfl) hq1 hf rfl k hP1 hD1 hS1)
        · rename_i z
          obtain ⟨qv, hqv, rfl⟩ := hy0
          split at h
          · rename_i ci fs hcz
            obtain ⟨hc, rfl⟩ := rv_bif h
            obtain ⟨⟨az, ez⟩, hz1, vs, hez, hvs⟩ := rvWo_get hw hcz
            have hez : ez = .inr (ci, vs) := hez
            subst hez
            have hqz := rvAd_ref hz1 hqv
            subst hqz
            have hkd : (kd = 4 ∧ ci = 2) ∨ (kd = 5 ∧ ci = 6) := (rv_or' hc).elim (fun q9 => Or.inl ⟨rv_beq (rv_and q9).1, rv_beq (rv_and q9).2⟩) (fun q9 => Or.inr ⟨rv_beq (rv_and q9).1, rv_beq (rv_and q9).2⟩)
            rcases hce with ⟨h0, -⟩ | ⟨h0, -⟩ | ⟨-, f, he, hf⟩
            · rcases hkd with q9 | q9
              · rw [q9.1] at h0; exact absurd h0 (by decide)
              · rw [q9.1] at h0; exact absurd h0 (by decide)
            · rcases hkd with q9 | q9
              · rw [q9.1] at h0; exact absurd h0 (by decide)
              · rw [q9.1] at h0; exact absurd h0 (by decide)
            · have he : e0 = .inl (cT kd, n, .inr (.inr (.inr (.inr f)))) := he
              subst he
              rcases hkd with ⟨q9, q8⟩ | ⟨q9, q8⟩
              · subst q9; subst q8
                exact va_astq (D := D) (r := (RX2, TX2, 11)) hx hb hK hP hD hS k0 4 z 2 hq1 rfl hz1 rfl i1 hd (fun H1 locs1 hP1 hD1 hS1 => fin f (some qv) (.inr (2, z)) H1 locs1 (Or.inl rfl) hq1 hf ⟨qv, hqv, rfl⟩ k hP1 hD1 hS1)
              · subst q9; subst q8
                exact va_astq (D := D) (r := (RX6, TX6, 5)) hx hb hK hP hD hS k0 5 z 6 hq1 rfl hz1 rfl i1 hd (fun H1 locs1 hP1 hD1 hS1 => fin f (some qv) (.inr (2, z)) H1 locs1 (Or.inr rfl) hq1 hf ⟨qv, hqv, rfl⟩ k hP1 hD1 hS1)
          · cases h
        · cases h
      · cases h
    · cases h
  · cases h
set_option maxHeartbeats 4000000 in
set_option maxRecDepth 100000 in
theorem rs_new (C : rvCx p s m args meth c cc own mL D cT ex A ini sc) {BC BS a1 a2 a3 wi pc kc ks idx : Nat} {al st : List rvV} {aw : rvH} {o : rvS} (hd : decode cc pc = .ok (.new idx, 3)) (hk : rvAux own ini (.new idx) a1 a2 wi = true) (hBC : BC ≤ R.cells) (hBS : BS ≤ R.slots)
    (h : rvStep rvTy rvNf rvTxt sc BC BS mL (.new idx) a1 a2 a3 pc al st aw kc ks = some o) (k : rvG p l e R s m args below meth c Q D cT ex A mL o) : rvG p l e R s m args below meth c Q D cT ex A mL (pc, al, st, aw, kc, ks) := by
  obtain ⟨hx, hb, hml, hown, hts, hK, hA, hX, hini, hsc⟩ := C
  intro ws H locs ls stk hw hl hs hP hD hS
  dsimp only at hw hl hs ⊢
  obtain ⟨hc, rfl⟩ := rv_bif h
  obtain ⟨c1, c2⟩ := rv_and hc
  obtain ⟨g1, g2⟩ := rv_and (show (Nat.blt a1 13 && rvW wi (.classLink own idx (rvCn a1))) = true from hk)
  obtain ⟨⟨hi1, hi2, hin, hty⟩, hcl, hnm⟩ := rvCl a1 (rv_blt g1)
  have c1 := rv_ble c1
  have c2 := rv_ble c2
  refine va_new (D := D) (fs := (List.range (rvNf a1)).map (fun k => defaultValue (rvTy a1 k))) hx hb hts hin (rvTy a1) (fun j hj => (hty j hj).2) hown (hts _ (rvW_ok g2)) (hts _ hi1) (hts _ hi2) hK hP hD hS hA hcl (fun j hj => ?_) (by omega) (by omega) hd (fun q H1 hP1 hD1 hS1 => ?_)
  · show _ = List.getD _ j Value.null
    rw [List.getD_eq_getElem?_getD, List.getElem?_map, List.getElem?_range hj]
    rfl
  · exact rvPush k hw hl hs ⟨_, rfl, rvRs_map _ (fun k9 hk9 => rvDef_ok (hty k9 (List.mem_range.mp hk9)).1)⟩ hP1 hD1 hS1
set_option maxHeartbeats 4000000 in
set_option maxRecDepth 100000 in
theorem rs_newarray (C : rvCx p s m args meth c cc own mL D cT ex A ini sc) {BC BS a1 a2 a3 wi pc kc ks : Nat} {t : ArrayType} {al st : List rvV} {aw : rvH} {o : rvS} (hd : decode cc pc = .ok (.newarray t, 2)) (hk : rvAux own ini (.newarray t) a1 a2 wi = true) (hBC : BC ≤ R.cells) (hBS : BS ≤ R.slots)
    (h : rvStep rvTy rvNf rvTxt sc BC BS mL (.newarray t) a1 a2 a3 pc al st aw kc ks = some o) (k : rvG p l e R s m args below meth c Q D cT ex A mL o) : rvG p l e R s m args below meth c Q D cT ex A mL (pc, al, st, aw, kc, ks) := by
  obtain ⟨hx, hb, hml, hown, hts, hK, hA, hX, hini, hsc⟩ := C
  intro ws H locs ls stk hw hl hs hP hD hS
  dsimp only at hw hl hs ⊢
  simp only [rvStep] at h
  split at h
  · rename_i x st
    obtain ⟨hc, rfl⟩ := rv_bif h
    obtain ⟨c1, c2⟩ := rv_and hc
    obtain ⟨c2, c3⟩ := rv_and c2
    obtain ⟨c3, c4⟩ := rv_and c3
    obtain ⟨c4, c5⟩ := rv_and c4
    have c2 := of_decide_eq_true c2
    have c3 := of_decide_eq_true c3
    have c4 := rv_ble c4
    have c5 := rv_ble c5
    obtain ⟨y1, stk1, rfl, ⟨n1, rfl, p1, q1⟩, hs1⟩ := rvRs_cons hs
    obtain ⟨e1, -⟩ := rv_one c1 p1 q1
    have hn0 : ¬ n1 < 0 := by
      rw [Int32.lt_iff_toInt_lt]
      show ¬ n1.toInt < 0
      omega
    have hN : n1.toNatClampNeg = x.1.toNat := by
      show n1.toInt.toNat = _
      rw [e1]
    have hle : x.1.toNat ≤ 100000 := by omega
    cases t
    case int =>
      obtain ⟨g1, g2⟩ := rv_and (show (rvW wi (.arrayClass (newarray.typeOf .int)) && Nat.beq a1 0) = true from hk)
      have ea1 := rv_beq g2
      subst ea1
      refine va_newa (D := D) (atype := .int) (ty := .int) (N' := x.1.toNat) (a0 := (x.1.toNat, .inl (fun _ => 0))) hx hb (hts _ (rvW_ok g1)) rfl hK hP hD hS hA (fun cA => rfl) hn0 hN (rv_bytes hle (by decide)) (by omega) (by omega) hd (fun q cA H1 hK1 hP1 hD1 hS1 => ?_)
      have hca : cA = cT 0 := by
        have r1 := (hK1.2 6 (cA, .int) rfl).2
        have r2 := (hK.2 0 (cT 0, .int) rfl).2
        exact Option.some.inj ((show s.vm.findClass _ = some cA from r1).symm.trans (show s.vm.findClass _ = some (cT 0) from r2))
      subst hca
      exact rvPush k hw hl hs1 (Or.inl ⟨by decide, _, rfl, fun j _ => rvR_K rfl⟩) hP1 hD1 hS1
    case byte =>
      obtain ⟨g1, g2⟩ := rv_and (show (rvW wi (.arrayClass (newarray.typeOf .byte)) && Nat.beq a1 1) = true from hk)
      have ea1 := rv_beq g2
      subst ea1
      refine va_newa (D := D) (atype := .byte) (ty := .byte) (N' := x.1.toNat) (a0 := (x.1.toNat, .inl (fun _ => 0))) hx hb (hts _ (rvW_ok g1)) rfl hK hP hD hS hA (fun cA => rfl) hn0 hN (rv_bytes hle (by decide)) (by omega) (by omega) hd (fun q cA H1 hK1 hP1 hD1 hS1 => ?_)
      have hca : cA = cT 1 := by
        have r1 := (hK1.2 6 (cA, .byte) rfl).2
        have r2 := (hK.2 1 (cT 1, .byte) rfl).2
        exact Option.some.inj ((show s.vm.findClass _ = some cA from r1).symm.trans (show s.vm.findClass _ = some (cT 1) from r2))
      subst hca
      exact rvPush k hw hl hs1 (Or.inl ⟨by decide, _, rfl, fun j _ => rvR_K rfl⟩) hP1 hD1 hS1
    case boolean =>
      obtain ⟨g1, g2⟩ := rv_and (show (rvW wi (.arrayClass (newarray.typeOf .boolean)) && Nat.beq a1 2) = true from hk)
      have ea1 := rv_beq g2
      subst ea1
      refine va_newa (D := D) (atype := .boolean) (ty := .boolean) (N' := x.1.toNat) (a0 := (x.1.toNat, .inl (fun _ => 0))) hx hb (hts _ (rvW_ok g1)) rfl hK hP hD hS hA (fun cA => rfl) hn0 hN (rv_bytes hle (by decide)) (by omega) (by omega) hd (fun q cA H1 hK1 hP1 hD1 hS1 => ?_)
      have hca : cA = cT 2 := by
        have r1 := (hK1.2 6 (cA, .boolean) rfl).2
        have r2 := (hK.2 2 (cT 2, .boolean) rfl).2
        exact Option.some.inj ((show s.vm.findClass _ = some cA from r1).symm.trans (show s.vm.findClass _ = some (cT 2) from r2))
      subst hca
      exact rvPush k hw hl hs1 (Or.inl ⟨by decide, _, rfl, fun j _ => rvR_K rfl⟩) hP1 hD1 hS1
    case long =>
      obtain ⟨g1, g2⟩ := rv_and (show (rvW wi (.arrayClass (newarray.typeOf .long)) && Nat.beq a1 3) = true from hk)
      have ea1 := rv_beq g2
      subst ea1
      refine va_newa (D := D) (atype := .long) (ty := .long) (N' := x.1.toNat) (a0 := (x.1.toNat, .inr (.inl (fun _ => 0)))) hx hb (hts _ (rvW_ok g1)) rfl hK hP hD hS hA (fun cA => rfl) hn0 hN (rv_bytes hle (by decide)) (by omega) (by omega) hd (fun q cA H1 hK1 hP1 hD1 hS1 => ?_)
      have hca : cA = cT 3 := by
        have r1 := (hK1.2 6 (cA, .long) rfl).2
        have r2 := (hK.2 3 (cT 3, .long) rfl).2
        exact Option.some.inj ((show s.vm.findClass _ = some cA from r1).symm.trans (show s.vm.findClass _ = some (cT 3) from r2))
      subst hca
      exact rvPush k hw hl hs1 (Or.inr (Or.inl ⟨rfl, _, rfl⟩)) hP1 hD1 hS1
    all_goals exact absurd (rv_and (show (_ && false) = true from hk)).2 (by decide)
  · cases h
set_option maxHeartbeats 4000000 in
set_option maxRecDepth 100000 in
theorem rs_anewarray (C : rvCx p s m args meth c cc own mL D cT ex A ini sc) {BC BS a1 a2 a3 wi pc kc ks idx : Nat} {al st : List rvV} {aw : rvH} {o : rvS} (hd : decode cc pc = .ok (.anewarray idx, 3)) (hk : rvAux own ini (.anewarray idx) a1 a2 wi = true) (hBC : BC ≤ R.cells) (hBS : BS ≤ R.slots)
    (h : rvStep rvTy rvNf rvTxt sc BC BS mL (.anewarray idx) a1 a2 a3 pc al st aw kc ks = some o) (k : rvG p l e R s m args below meth c Q D cT ex A mL o) : rvG p l e R s m args below meth c Q D cT ex A mL (pc, al, st, aw, kc, ks) := by
  obtain ⟨hx, hb, hml, hown, hts, hK, hA, hX, hini, hsc⟩ := C
  intro ws H locs ls stk hw hl hs hP hD hS
  dsimp only at hw hl hs ⊢
  simp only [rvStep] at h
  split at h
  · rename_i x st
    obtain ⟨hc, rfl⟩ := rv_bif h
    obtain ⟨c1, c2⟩ := rv_and hc
    obtain ⟨c2, c3⟩ := rv_and c2
    obtain ⟨c3, c4⟩ := rv_and c3
    obtain ⟨c4, c5⟩ := rv_and c4
    have c2 := of_decide_eq_true c2
    have c3 := of_decide_eq_true c3
    have c4 := rv_ble c4
    have c5 := rv_ble c5
    obtain ⟨y1, stk1, rfl, ⟨n1, rfl, p1, q1⟩, hs1⟩ := rvRs_cons hs
    obtain ⟨e1, -⟩ := rv_one c1 p1 q1
    have hn0 : ¬ n1 < 0 := by
      rw [Int32.lt_iff_toInt_lt]
      show ¬ n1.toInt < 0
      omega
    have hN : n1.toNatClampNeg = x.1.toNat := by
      show n1.toInt.toNat = _
      rw [e1]
    have hk : (bif Nat.beq a1 4 then rvW wi (.classLink own idx RX2) else Nat.beq a1 5 && rvW wi (.classLink own idx RX6)) = true := hk
    cases h4 : Nat.beq a1 4 with
    | true =>
      have ea1 := rv_beq h4
      subst ea1
      have hk : rvW wi (.classLink own idx RX2) = true := hk
      refine va_newq (D := D) (C := RX2) (N' := x.1.toNat) hx hb hown (hts _ (rvW_ok hk)) hX.2.1 hK hP hD hS hA hn0 hN (by omega) (by omega) (by omega) hd (fun q cA H1 hK1 hP1 hD1 hS1 => ?_)
      have hca : cA = cT 4 := by
        obtain ⟨-, -, -, -, -, r1⟩ := (hK1.2 6 (cA, .object RX2) rfl).2
        obtain ⟨-, -, -, -, -, r2⟩ := (hK.2 4 (cT 4, .object RX2) rfl).2
        exact Option.some.inj (r1.symm.trans r2)
      subst hca
      exact rvPush k hw hl hs1 (Or.inr (Or.inr ⟨Or.inl rfl, fun _ => none, rfl, fun j _ => rfl⟩)) hP1 hD1 hS1
    | false =>
      rw [h4] at hk
      obtain ⟨g1, hk⟩ := rv_and (show (Nat.beq a1 5 && rvW wi (.classLink own idx RX6)) = true from hk)
      have ea1 := rv_beq g1
      subst ea1
      refine va_newq (D := D) (C := RX6) (N' := x.1.toNat) hx hb hown (hts _ (rvW_ok hk)) hX.2.2.1 hK hP hD hS hA hn0 hN (by omega) (by omega) (by omega) hd (fun q cA H1 hK1 hP1 hD1 hS1 => ?_)
      have hca : cA = cT 5 := by
        obtain ⟨-, -, -, -, -, r1⟩ := (hK1.2 6 (cA, .object RX6) rfl).2
        obtain ⟨-, -, -, -, -, r2⟩ := (hK.2 5 (cT 5, .object RX6) rfl).2
        exact Option.some.inj (r1.symm.trans r2)
      subst hca
      exact rvPush k hw hl hs1 (Or.inr (Or.inr ⟨Or.inr rfl, fun _ => none, rfl, fun j _ => rfl⟩)) hP1 hD1 hS1
  · cases h
set_option maxHeartbeats 4000000 in
set_option maxRecDepth 100000 in
theorem rvStep_ok (C : rvCx p s m args meth c cc own mL D cT ex A ini sc) {BC BS a1 a2 a3 wi pc kc ks len : Nat} {i : Instr} {al st : List rvV} {aw : rvH} {o : rvS} (hd : decode cc pc = .ok (i, rvSz i len)) (hk : rvAux own ini i a1 a2 wi = true) (hBC : BC ≤ R.cells) (hBS : BS ≤ R.slots)
    (h : rvStep rvTy rvNf rvTxt sc BC BS mL i a1 a2 a3 pc al st aw kc ks = some o) (k : rvG p l e R s m args below meth c Q D cT ex A mL o) : rvG p l e R s m args below meth c Q D cT ex A mL (pc, al, st, aw, kc, ks) := by
  cases i
  case iconst => exact rs_iconst C hd hk hBC hBS h k
  case bipush => exact rs_bipush C hd hk hBC hBS h k
  case sipush => exact rs_sipush C hd hk hBC hBS h k
  case lconst => exact rs_lconst C hd hk hBC hBS h k
  case ldc2_w => exact rs_ldc2_w C hd hk hBC hBS h k
  case ldc => exact rs_ldc C hd hk hBC hBS h k
  case aconst_null => exact rs_aconst_null C hd hk hBC hBS h k
  case iload => exact rs_iload C hd hk hBC hBS h k
  case iload_n => exact rs_iload_n C hd hk hBC hBS h k
  case lload => exact rs_lload C hd hk hBC hBS h k
  case lload_n => exact rs_lload_n C hd hk hBC hBS h k
  case aload => exact rs_aload C hd hk hBC hBS h k
  case aload_n => exact rs_aload_n C hd hk hBC hBS h k
  case istore => exact rs_istore C hd hk hBC hBS h k
  case istore_n => exact rs_istore_n C hd hk hBC hBS h k
  case lstore => exact rs_lstore C hd hk hBC hBS h k
  case lstore_n => exact rs_lstore_n C hd hk hBC hBS h k
  case astore => exact rs_astore C hd hk hBC hBS h k
  case astore_n => exact rs_astore_n C hd hk hBC hBS h k
  case iinc => exact rs_iinc C hd hk hBC hBS h k
  case iadd => exact rs_iadd C hd hk hBC hBS h k
  case isub => exact rs_isub C hd hk hBC hBS h k
  case imul => exact rs_imul C hd hk hBC hBS h k
  case iand => exact rs_iand C hd hk hBC hBS h k
  case ior => exact rs_ior C hd hk hBC hBS h k
  case ixor => exact rs_ixor C hd hk hBC hBS h k
  case ishl => exact rs_ishl C hd hk hBC hBS h k
  case ishr => exact rs_ishr C hd hk hBC hBS h k
  case iushr => exact rs_iushr C hd hk hBC hBS h k
  case irem => exact rs_irem C hd hk hBC hBS h k
  case i2b => exact rs_i2b C hd hk hBC hBS h k
  case i2c => exact rs_i2c C hd hk hBC hBS h k
  case i2l => exact rs_i2l C hd hk hBC hBS h k
  case lor => exact rs_lor C hd hk hBC hBS h k
  case lshl => exact rs_lshl C hd hk hBC hBS h k
  case dup => exact rs_dup C hd hk hBC hBS h k
  case dup_x1 => exact rs_dup_x1 C hd hk hBC hBS h k
  case dup2 => exact rs_dup2 C hd hk hBC hBS h k
  case pop => exact rs_pop C hd hk hBC hBS h k
  case if_icmp => exact rs_if_icmp C hd hk hBC hBS h k
  case ifCond => exact rs_ifCond C hd hk hBC hBS h k
  case ifnonnull => exact rs_ifnonnull C hd hk hBC hBS h k
  case ifnull => exact rs_ifnull C hd hk hBC hBS h k
  case goto => exact rs_goto C hd hk hBC hBS h k
  case tableswitch => exact rs_tableswitch C hd hk hBC hBS h k
  case getfield => exact rs_getfield C hd hk hBC hBS h k
  case putfield => exact rs_putfield C hd hk hBC hBS h k
  case getstatic => exact rs_getstatic C hd hk hBC hBS h k
  case arraylength => exact rs_arraylength C hd hk hBC hBS h k
  case iaload => exact rs_iaload C hd hk hBC hBS h k
  case baload => exact rs_baload C hd hk hBC hBS h k
  case laload => exact rs_laload C hd hk hBC hBS h k
  case aaload => exact rs_aaload C hd hk hBC hBS h k
  case iastore => exact rs_iastore C hd hk hBC hBS h k
  case bastore => exact rs_bastore C hd hk hBC hBS h k
  case lastore => exact rs_lastore C hd hk hBC hBS h k
  case aastore => exact rs_aastore C hd hk hBC hBS h k
  case new => exact rs_new C hd hk hBC hBS h k
  case newarray => exact rs_newarray C hd hk hBC hBS h k
  case anewarray => exact rs_anewarray C hd hk hBC hBS h k
  all_goals cases h
end RVN
end
section
/-! Calls, runs and methods. -/
def rvOp (ad : List Nat) (ex : Nat → Nat → Nat) : Option rvV → Option Value → Prop
  | none, none => True
  | some a, some x => rvR ad ex a x
  | _, _ => False
def rvQ (D : va_G) (cT : Nat → ClassId) (ex : Nat → Nat → Nat) (ws : va_W) (sz : Nat) (r : Option rvV × rvH) : Array Value → State → Outcome → State → Prop := fun _ st oc t =>
  ∃ (v : Option Value) (w1 : va_W), oc = .returned v ∧ (∃ t1, rvAd w1 = rvAd ws ++ t1) ∧ rvWoo cT (rvAd w1) ex r.2 w1 ∧ rvOp (rvAd w1) ex r.1 v ∧ va_P D vwCl w1 t.heap ∧ va_D (va_A ws sz) w1 ∧ va_F (va_A ws sz) st t
def rvPc (D : va_G) (cT : Nat → ClassId) (ex : Nat → Nat → Nat) (ws : va_W) (sz : Nat) (xs : List Value) : Array Value → State → Prop :=
  va_Pc xs (fun U => U.heap.size = sz ∧ va_P D vwCl ws U.heap ∧ va_K D vwCl (rvTys cT) U ∧ va_D (fun _ => True) ws ∧ rvKx ex (va_A ws sz) U U.heap)
def rvRm (i : rvM) : Room := { frames := i.2.1, cells := i.2.2.1, slots := i.2.2.2.1, locals := i.2.2.2.2.1 }
/-- the contract of a method: what rvExec answers of it -/
def rvMet (l : Launch) (D : va_G) (cT : Nat → ClassId) (ex : Nat → Nat → Nat) (yn : Nat → MethodName) (cd : Nat → ByteArray) (info : Nat → rvM) (rets : Nat → Option FieldType) (j : Nat) (as : List rvV) (aw : rvH) (r : Option rvV × rvH) : Prop :=
  ∀ (ws : va_W) (xs : List Value) (sz : Nat), rvWoo cT (rvAd ws) ex aw ws → rvRs (rvAd ws) ex as xs →
    Met l (yn j) (.code (yn j) (cd j) (info j).1 (rets j) :: rvWl) (rvRm (info j)) (rvPc D cT ex ws sz xs) (rvQ D cT ex ws sz r) (info j).2.2.1 (info j).2.2.2.1 (va_A ws sz)
/-- what the tables say of a method -/
def rvMp (yn : Nat → MethodName) (cd : Nat → ByteArray) (info : Nat → rvM) (rets : Nat → Option FieldType) (kd : Nat → Nat × Nat) (j : Nat) : Prop :=
  plainName (yn j).cls = true ∧ ((yn j).cls ≠ "java/lang/invoke/MethodHandle" ∧ (yn j).cls ≠ "java/lang/invoke/VarHandle" ∧ (parseMethodDescriptor (yn j).desc).map (fun d => d.parameters.length) = some (kd j).2) ∧
  Cond.code (yn j) (cd j) (info j).1 (rets j) ∈ rvWl ∧ Cond.initialized (yn j).cls ∈ rvWl ∧
  ((kd j).1 = 0 → Cond.instanceMethod (yn j) ∈ rvWl ∧ Cond.selects (yn j).cls (yn j) (yn j) ∈ rvWl ∧ (((info j).2.2.2.2.2 < 13 ∧ rvCn (info j).2.2.2.2.2 = (yn j).cls) ∨ ((info j).2.2.2.2.2 = 100 ∧ (yn j).cls = "java/lang/String"))) ∧
  ((kd j).1 = 1 → Cond.static (yn j) ∈ rvWl) ∧ ((kd j).1 = 2 → Cond.instanceMethod (yn j) ∈ rvWl ∧ (yn j).name = "<init>" ∧ rets j = none)
def rvNw (wi : Nat) (own : String) (idx : Nat) (y : MethodName) : Bool := match lw_tbl[wi]? with
  | some (.methodLinkNest ow k y' _) => decide (ow = own) && (Nat.beq k idx && decide (y' = y))
  | _ => false
theorem rvNw_ok {wi idx : Nat} {own : String} {y : MethodName} (h : rvNw wi own idx y = true) : ∃ host, Cond.methodLinkNest own idx y host ∈ rvNl := by
  unfold rvNw at h
  split at h
  · rename_i ow k y' host he
    obtain ⟨h1, h2⟩ := rv_and h
    obtain ⟨h2, h3⟩ := rv_and h2
    have e1 := of_decide_eq_true h1
    have e2 := rv_beq h2
    have e3 := of_decide_eq_true h3
    subst e1; subst e2; subst e3
    exact ⟨host, List.mem_filter.mpr ⟨List.mem_of_getElem? he, rfl⟩⟩
  · cases h
/-- what a call links to -/
def rvCk (yn : Nat → MethodName) (kd : Nat → Nat × Nat) (NM : Nat) (own : String) (i : Instr) (a1 a2 a3 wi : Nat) : Bool := match i with
  | .invokevirtual idx => Nat.blt a1 NM && (Nat.beq (kd a1).1 0 && (Nat.beq (kd a1).2 a2 && rvW wi (.methodLink own idx (yn a1))))
  | .invokespecial idx => bif Nat.beq a3 9 then rvW wi (.methodLink own idx objectInit) else Nat.blt a1 NM && (Nat.beq (kd a1).1 2 && (Nat.beq (kd a1).2 a2 && (bif Nat.beq a3 0 then rvW wi (.methodLink own idx (yn a1)) else rvNw wi own idx (yn a1))))
  | .invokestatic idx => bif Nat.beq a3 8 then rvW wi (.methodLink own idx arraycopyName) else Nat.blt a1 NM && (Nat.beq (kd a1).1 1 && (Nat.beq (kd a1).2 a2 && (bif Nat.beq a3 0 then rvW wi (.methodLink own idx (yn a1)) else rvNw wi own idx (yn a1))))
  | _ => true
def rvTk (yn : Nat → MethodName) (kd : Nat → Nat × Nat) (NM : Nat) (own : String) (cc : ByteArray) (ini : Bool) (tab : Nat → Option rvE) : Prop :=
  ∀ (pc : Nat) (i : Instr) (len a1 a2 a3 wi : Nat), tab pc = some (i, len, a1, a2, a3, wi) → decode cc pc = .ok (i, rvSz i len) ∧ rvAux own ini i a1 a2 wi = true ∧ rvCk yn kd NM own i a1 a2 a3 wi = true
/-- the words of Object's constructor and of arraycopy -/
def rvBase : Prop := Cond.instanceMethod objectInit ∈ rvWl ∧ Cond.code objectInit ⟨#[0xb1]⟩ 1 none ∈ rvWl ∧ Cond.native arraycopyName ∈ rvWl ∧ Cond.static arraycopyName ∈ rvWl ∧ Cond.initialized "java/lang/System" ∈ rvWl
theorem rvGood_cons {w : Cond} {ws : List Cond} (h : w ∈ rvWl) (h2 : GoodIn rvWl ws) : GoodIn rvWl (w :: ws) := fun v hv => (List.mem_cons.mp hv).elim (fun e => by rw [e]; exact ⟨h, good_of_word (rvWl_good w h)⟩) (h2 v)
theorem rvGood_self : GoodIn rvWl rvWl := fun w h => ⟨h, good_of_word (rvWl_good w h)⟩
theorem rvOp_rs {ad : List Nat} {ex : Nat → Nat → Nat} {a : Option rvV} {v : Option Value} {rs : List rvV} {xs : List Value} (h : rvOp ad ex a v) (hs : rvRs ad ex rs xs) : rvRs ad ex (a.toList ++ rs) (v.toList ++ xs) := by
  cases a with
  | none =>
    cases v with
    | none => exact hs
    | some x => exact absurd h id
  | some a =>
    cases v with
    | none => exact absurd h id
    | some x => exact ⟨h, hs⟩
section RVC
variable {p : Program} {l : Launch} {e : Env} {R : Room} {s : State} {m : MethodId} {args : Array Value} {below : List Frame} {meth : Method} {c : Code} {Q : State → Prop} {cc : ByteArray} {own : String} {mL : Nat} {D : va_G} {cT cB : Nat → ClassId} {ex : Nat → Nat → Nat} {A : Nat → Prop} {sc : List (Int × Int)} {ini : Bool}
variable {yn : Nat → MethodName} {cd : Nat → ByteArray} {info : Nat → rvM} {rets : Nat → Option FieldType} {kd : Nat → Nat × Nat} {NM : Nat} {call : Nat → List rvV → rvH → rvO}
/-- which cells a callee may change are among the caller's -/
theorem rv_free {ws : va_W} {H : Heap} {locs : List Loc} (hD : va_D A ws) (hS : va_S A s.heap H locs) (hA : ∀ q, s.heap.size ≤ q → A q) : ∀ q, va_A ws H.size q → A q := by
  intro q h
  rcases h with ⟨k, e0, h⟩ | h
  · exact hD.2 k (q, e0) h
  · exact hA q (Nat.le_trans hS.1 h)
theorem rv_go {ws : va_W} {H : Heap} {locs : List Loc} {kc ks mc ms pc : Nat} {ls : Array Slot} {st0 rest : List Value} {a : Array Value} {r : Option rvV × rvH} {aw : rvH} {al rst : List rvV} (hA : ∀ q, s.heap.size ≤ q → A q) (hcB : ∀ q, q < 6 → cB q = cT q)
    (hr : va_Run p l e R s m args below meth c H locs kc ks mc ms (F0 m pc ls st0) rest (rvQ D cB ex ws H.size r a) (va_A ws H.size)) (hw : rvWo cT (rvAd ws) ex aw ws) (hl : rvLo (rvAd ws) ex mL al ls) (hs : rvRs (rvAd ws) ex rst rest) (hD : va_D A ws) (hS : va_S A s.heap H locs)
    (k : rvG p l e R s m args below meth c Q D cT ex A mL (pc + 3, al, r.1.toList ++ rst, r.2, kc + mc, ks + ms)) : W p l e R s m args below meth c H locs kc ks Q (F0 m pc ls st0) := by
  intro T hT X
  obtain ⟨v, st₀, t, T', L, h0, X', hL, e1, e2, ⟨v', w1, hv, ⟨t1, ht1⟩, hw1, ho, hP1, hD1, hz, hk⟩, st⟩ := hr T hT X
  cases hv
  rw [h0] at hz hk
  have hF := rv_free hD hS hA
  have hS1 : va_S A s.heap T'.heap (locs ++ L) := ⟨Nat.le_trans hS.1 (by rw [e1]; exact hz), fun q h1 h2 => by rw [e1, hk q (Nat.lt_of_lt_of_le h1 hS.1) (fun z => h2 (hF q z))]; exact hS.2.1 q h1 h2, fun q hq => by
      rcases List.mem_append.mp hq with h | h
      · exact hS.2.2 q h
      · exact hF _ (hL q h)⟩
  rw [← e1] at hP1
  have hw2 : rvWo cT (rvAd w1) ex r.2 w1 := ⟨rvWoo_c hcB hw1, fun k9 hk9 => by
    have h9 := hw.2 k9 hk9
    rw [ht1, List.getElem?_append_left (List.getElem?_eq_some_iff.mp h9).1]
    exact h9⟩
  obtain ⟨t2, a1, b1⟩ := k w1 T'.heap (locs ++ L) ls (v.toList ++ rest) hw2 (by rw [ht1]; exact rvLo_mono _ hl) (rvOp_rs ho (by rw [ht1]; exact rvRs_mono _ hs)) hP1 (hD1.weaken (fun _ q _ h => hF q.1 h)) hS1 T' rfl X'
  exact ⟨t2, st t2 a1, b1⟩
theorem rv_blind {ws : va_W} {sz : Nat} {xs : List Value} : FrameBlind (rvPc D cB ex ws sz xs) := fun a U g mk q => by
  obtain ⟨q0, q1, qP, qK, qD, qX⟩ := q
  exact ⟨q0, q1, qP, va_K.moved (u := U) (U := U.calling g mk a) (Vm.Alike.refl U.vm) qK, qD, rvKx_same (u := U) rfl qX⟩
theorem rv_pre {ws : va_W} {H : Heap} {locs : List Loc} {xs : List Value} (hK : va_K D vwCl (rvTys cB) s) (hX : rvKx ex A s s.heap) (hA : ∀ q, s.heap.size ≤ q → A q) (hP : va_P D vwCl ws H) (hD : va_D A ws) (hS : va_S A s.heap H locs) : ∀ U : State, U.heap = H → s.WarmedH U.vm → rvPc D cB ex ws H.size xs xs.toArray U := by
  intro U hU hW
  refine ⟨rfl, by rw [hU], by rw [hU]; exact hP, va_K.moved hW.alike hK, hD.weaken (fun _ _ _ _ => trivial), ?_⟩
  rw [hU]
  exact rvKx_warm hW (rvKx_narrow (rvKx_kept hX (fun a h1 h2 => hS.2.1 a h1 h2)) (rv_free hD hS hA))
theorem rvTys_c (hcB : ∀ q, q < 6 → cB q = cT q) : rvTys cT = rvTys cB := by
  simp only [rvTys, hcB 0 (by decide), hcB 1 (by decide), hcB 2 (by decide), hcB 3 (by decide), hcB 4 (by decide), hcB 5 (by decide)]
set_option maxHeartbeats 4000000 in
set_option maxRecDepth 100000 in
/-- a call of an own method -/
theorem rvInv_ok (C : rvCx p s m args meth c cc own mL D cT ex A ini sc) (hcB : ∀ q, q < 6 → cB q = cT q) (hM : ∀ j, j < NM → rvMp yn cd info rets kd j) (hcall : ∀ j as aw r, j < NM → call j as aw = some r → rvMet l D cB ex yn cd info rets j as aw r)
    {BF BC BS BL a1 a2 a3 wi pc kc ks len : Nat} {i : Instr} {virt : Bool} {al st : List rvV} {aw : rvH} {o : rvS} (hd : decode cc pc = .ok (i, rvSz i len)) (hk : rvCk yn kd NM own i a1 a2 a3 wi = true)
    (hi : (∃ idx, i = .invokevirtual idx ∧ virt = true) ∨ (∃ idx, i = .invokespecial idx ∧ virt = true ∧ Nat.beq a3 9 = false) ∨ (∃ idx, i = .invokestatic idx ∧ virt = false ∧ Nat.beq a3 8 = false))
    (hBF : BF ≤ R.frames) (hBC : BC ≤ R.cells) (hBS : BS ≤ R.slots) (hBL : BL ≤ R.locals)
    (h : rvInv call info BF BC BS BL a1 a2 virt pc al st aw kc ks = some o) (k : rvG p l e R s m args below meth c Q D cT ex A mL o) : rvG p l e R s m args below meth c Q D cT ex A mL (pc, al, st, aw, kc, ks) := by
  obtain ⟨hx, hb, hml, hown, hts, hK, hA, hX, hini, hsc⟩ := C
  intro ws H locs ls stk hw hl hs hP hD hS
  dsimp only at hw hl hs ⊢
  have hKB : va_K D vwCl (rvTys cB) s := by rw [← rvTys_c hcB]; exact hK
  have hwB : rvWoo cB (rvAd ws) ex aw ws := rvWoo_c (fun q hq => (hcB q hq).symm) hw.1
  have hls : ls.size = mL := by obtain ⟨-, l9, h9, -⟩ := hl; exact h9.1
  unfold rvInv at h
  split at h
  · rename_i as rest hpop
    rcases hinf : info a1 with ⟨mL', fr, ce, sl, lo, cls⟩
    rw [hinf] at h
    dsimp only at h
    cases hbud : (Nat.ble (fr + 1) BF && (Nat.ble (8 + (mL' + 11) + lo) BL && (Nat.ble (kc + ce) BC && Nat.ble (ks + sl) BS))) with
    | false => rw [hbud] at h; cases h
    | true =>
      rw [hbud] at h
      simp only [cond_true] at h
      obtain ⟨b1, b2⟩ := rv_and hbud
      obtain ⟨b2, b3⟩ := rv_and b2
      obtain ⟨b3, b4⟩ := rv_and b3
      have b1 := rv_ble b1
      have b2 := rv_ble b2
      have b3 := rv_ble b3
      have b4 := rv_ble b4
      have hmt : ∀ as' r, a1 < NM → call a1 as' aw = some r → ∀ xs, rvRs (rvAd ws) ex as' xs → Met l (yn a1) (.code (yn a1) (cd a1) mL' (rets a1) :: rvWl) (rvRm (info a1)) (rvPc D cB ex ws H.size xs) (rvQ D cB ex ws H.size r) ce sl (va_A ws H.size) := by
        intro as' r hj hc xs hxs
        have h9 := hcall a1 as' aw r hj hc ws xs H.size hwB hxs
        rw [hinf] at h9 ⊢
        exact h9
      have hrm : rvRm (info a1) = { frames := fr, cells := ce, slots := sl, locals := lo } := by rw [hinf]; rfl
      rw [hrm] at hmt
      obtain ⟨us, vs, rfl, hlen, hus, hvs⟩ := rvRs_pop a2 (ys := []) hpop hs trivial
      rw [List.append_nil] at hus
      have huslen : us.reverse.length = a2 := by rw [List.length_reverse]; exact hlen
      rcases hi with ⟨idx, rfl, rfl⟩ | ⟨idx, rfl, rfl, h9⟩ | ⟨idx, rfl, rfl, h9⟩
      · -- virtual
        obtain ⟨g1, g2⟩ := rv_and (show (Nat.blt a1 NM && (Nat.beq (kd a1).1 0 && (Nat.beq (kd a1).2 a2 && rvW wi (.methodLink own idx (yn a1))))) = true from hk)
        obtain ⟨g2, g3⟩ := rv_and g2
        obtain ⟨g3, g4⟩ := rv_and g3
        have g1 := rv_blt g1
        obtain ⟨m1, ⟨m2, m3, m4⟩, m5, m6, m7, -, -⟩ := hM a1 g1
        obtain ⟨m8, m9, m10⟩ := m7 (rv_beq g2)
        rw [rv_beq g3] at m4
        rw [hinf] at m5 m10
        dsimp only at m5 m10
        have cw : ∀ C, (yn a1).cls = C → CallW R s args own C idx (yn a1) (cd a1) mL' (rets a1) (.code (yn a1) (cd a1) mL' (rets a1) :: rvWl) { frames := fr, cells := ce, slots := sl, locals := lo } ce sl a2 := by
          intro C hC
          subst hC
          exact cwV a2 hts (rvGood_cons (rvW_ok g4) (rvGood_cons m8 (rvGood_cons m9 (rvGood_cons m6 (rvGood_cons m5 rvGood_self))))) rfl rfl rfl ⟨rfl, m2, m3, m4⟩ ⟨by show fr + 1 ≤ _; omega, by show 8 + (mL' + 11) + lo ≤ _; omega⟩
        simp only [cond_true] at h
        split at h
        · rename_i k0 rst
          split at h
          · rename_i ci fs hc0
            cases hcc : (Nat.beq ci cls && Nat.ble (rvWd rst) 8) with
            | false => rw [hcc] at h; cases h
            | true =>
              rw [hcc] at h
              simp only [cond_true] at h
              obtain ⟨f1, f2⟩ := rv_and hcc
              have f1 := rv_beq f1
              subst f1
              obtain ⟨x, stk1, rfl, ⟨q, hq, rfl⟩, hs1⟩ := rvRs_cons hvs
              obtain ⟨⟨a, e0⟩, hq1, fvs, he, hfvs⟩ := rvWo_get hw hc0
              have he : e0 = .inr (ci, fvs) := he
              subst he
              have hqa := rvAd_ref hq1 hq
              subst hqa
              have fin : ∀ r, call a1 (.inr (2, k0) :: as) aw = some r → rvG p l e R s m args below meth c Q D cT ex A mL (pc + 3, al, r.1.toList ++ rst, r.2, kc + ce, ks + sl) → W p l e R s m args below meth c H locs kc ks Q (F0 m pc ls (us ++ .ref q :: stk1)) := by
                intro r hcr kr
                have hM9 := hmt _ r g1 hcr (.ref q :: us.reverse) ⟨⟨q, hq, rfl⟩, hus⟩
                rcases m10 with ⟨m11, m12⟩ | ⟨m11, m12⟩
                · have hcl := (rvCl ci m11).2.1
                  refine rv_go hA hcB (va_runV (As := us.reverse) (rest := stk1) ⟨hx, hb, hml, hown, hts⟩ hM9 (cw (rvCn ci) m12.symm) ⟨rv_blind, va_recv hK hP hcl hq1, rv_pre hKB hX hA hP hD hS⟩ rfl huslen hls (by rw [List.reverse_reverse]) ?_ hd ⟨by omega, by omega⟩) hw hl hs1 hD hS kr
                  exact lv_room (by rw [rvRs_wd hs1]; exact rv_ble f2)
                · rw [m11] at hq1
                  obtain ⟨rr, hrr, -⟩ := hP k0 _ hq1
                  exact absurd hrr (by rw [rvCl_none (by omega)]; exact fun z => by cases z)
              split at h
              · rename_i v aw' hcr
                cases h
                exact fin _ hcr k
              · rename_i aw' hcr
                cases h
                exact fin _ hcr k
              · cases h
          · cases h
        · rename_i k0 rst
          cases hcc : ((Nat.beq cls 100 && Nat.beq k0 0) && Nat.ble (rvWd rst) 8) with
          | false => rw [hcc] at h; cases h
          | true =>
            rw [hcc] at h
            simp only [cond_true] at h
            obtain ⟨f1, f2⟩ := rv_and hcc
            obtain ⟨f0, f1⟩ := rv_and f1
            have f0 := rv_beq f0
            have f1 := rv_beq f1
            subst f1
            obtain ⟨x, stk1, rfl, hx3, hs1⟩ := rvRs_cons hvs
            have hx3 : x = .ref (ex 3 0) := hx3
            subst hx3
            have fin : ∀ r, call a1 (.inr (3, 0) :: as) aw = some r → rvG p l e R s m args below meth c Q D cT ex A mL (pc + 3, al, r.1.toList ++ rst, r.2, kc + ce, ks + sl) → W p l e R s m args below meth c H locs kc ks Q (F0 m pc ls (us ++ .ref (ex 3 0) :: stk1)) := by
              intro r hcr kr
              have hM9 := hmt _ r g1 hcr (.ref (ex 3 0) :: us.reverse) ⟨rfl, hus⟩
              have hstr : (yn a1).cls = "java/lang/String" := by
                rcases m10 with ⟨m11, m12⟩ | ⟨m11, m12⟩
                · omega
                · exact m12
              obtain ⟨-, -, -, -, hSt, -⟩ := id hX
              refine rv_go hA hcB (va_runV (As := us.reverse) (rest := stk1) ⟨hx, hb, hml, hown, hts⟩ hM9 (cw _ hstr) ⟨rv_blind, vk_recv (i := 0) hSt (by decide) hS, rv_pre hKB hX hA hP hD hS⟩ rfl huslen hls (by rw [List.reverse_reverse]) ?_ hd ⟨by omega, by omega⟩) hw hl hs1 hD hS kr
              exact lv_room (by rw [rvRs_wd hs1]; exact rv_ble f2)
            split at h
            · rename_i v aw' hcr
              cases h
              exact fin _ hcr k
            · rename_i aw' hcr
              cases h
              exact fin _ hcr k
            · cases h
        · cases h
      · -- a constructor
        have hk : (bif Nat.beq a3 9 then rvW wi (.methodLink own idx objectInit) else Nat.blt a1 NM && (Nat.beq (kd a1).1 2 && (Nat.beq (kd a1).2 a2 && (bif Nat.beq a3 0 then rvW wi (.methodLink own idx (yn a1)) else rvNw wi own idx (yn a1))))) = true := hk
        rw [h9] at hk
        obtain ⟨g1, g2⟩ := rv_and (show (Nat.blt a1 NM && (Nat.beq (kd a1).1 2 && (Nat.beq (kd a1).2 a2 && (bif Nat.beq a3 0 then rvW wi (.methodLink own idx (yn a1)) else rvNw wi own idx (yn a1))))) = true from hk)
        obtain ⟨g2, g3⟩ := rv_and g2
        obtain ⟨g3, g4⟩ := rv_and g3
        have g1 := rv_blt g1
        obtain ⟨m1, ⟨m2, m3, m4⟩, m5, m6, -, -, m7⟩ := hM a1 g1
        obtain ⟨m8, m9, m10⟩ := m7 (rv_beq g2)
        rw [rv_beq g3] at m4
        rw [hinf] at m5
        dsimp only at m5
        rw [m10] at m5 hmt
        simp only [cond_true] at h
        split at h
        · rename_i k0 rst
          split at h
          · rename_i ci fs hc0
            cases hcc : (Nat.beq ci cls && Nat.ble (rvWd rst) 8) with
            | false => rw [hcc] at h; cases h
            | true =>
              rw [hcc] at h
              simp only [cond_true] at h
              obtain ⟨f1, f2⟩ := rv_and hcc
              obtain ⟨x, stk1, rfl, ⟨q, hq, rfl⟩, hs1⟩ := rvRs_cons hvs
              have fin : ∀ r, call a1 (.inr (2, k0) :: as) aw = some r → rvG p l e R s m args below meth c Q D cT ex A mL (pc + 3, al, r.1.toList ++ rst, r.2, kc + ce, ks + sl) → W p l e R s m args below meth c H locs kc ks Q (F0 m pc ls (us ++ .ref q :: stk1)) := by
                intro r hcr kr
                have hM9 := hmt _ r g1 hcr (.ref q :: us.reverse) ⟨⟨q, hq, rfl⟩, hus⟩
                cases h3 : Nat.beq a3 0 with
                | true =>
                  rw [h3] at g4
                  refine rv_go hA hcB (va_runI (As := us.reverse) (rest := stk1) ⟨hx, hb, hml, hown, hts⟩ hM9 (cwI a2 hts (rvGood_cons m5 rvGood_self) rfl rfl rfl (hts _ m6) (hts _ (rvW_ok g4)) (hts _ m8) m9 ⟨m2, m3, m4⟩ ⟨by show fr + 1 ≤ _; omega, by show 8 + (mL' + 11) + lo ≤ _; omega⟩) ⟨rv_blind, rv_pre hKB hX hA hP hD hS⟩ rfl huslen hls (by rw [List.reverse_reverse]) ?_ hd ⟨by omega, by omega⟩) hw hl hs1 hD hS kr
                  exact lv_room (by rw [rvRs_wd hs1]; exact rv_ble f2)
                | false =>
                  rw [h3] at g4
                  obtain ⟨host, hhost⟩ := rvNw_ok g4
                  refine rv_go hA hcB (va_runIN (As := us.reverse) (rest := stk1) ⟨hx, hb, hml, hown, hts⟩ hM9 ⟨va_cnB a2 hts (rvGood_cons m5 rvGood_self) rfl rfl rfl (hX.1 _ hhost) (hts _ m6) ⟨m2, m3, m4⟩ ⟨by show fr + 1 ≤ _; omega, by show 8 + (mL' + 11) + lo ≤ _; omega⟩, m9, hts _ m8⟩ ⟨rv_blind, rv_pre hKB hX hA hP hD hS⟩ rfl huslen hls (by rw [List.reverse_reverse]) ?_ hd ⟨by omega, by omega⟩) hw hl hs1 hD hS kr
                  exact lv_room (by rw [rvRs_wd hs1]; exact rv_ble f2)
              split at h
              · rename_i v aw' hcr
                cases h
                exact fin _ hcr k
              · rename_i aw' hcr
                cases h
                exact fin _ hcr k
              · cases h
          · cases h
        · rename_i k0 rst
          cases hcc : ((Nat.beq cls 100 && Nat.beq k0 0) && Nat.ble (rvWd rst) 8) with
          | false => rw [hcc] at h; cases h
          | true =>
            rw [hcc] at h
            simp only [cond_true] at h
            obtain ⟨f1, f2⟩ := rv_and hcc
            obtain ⟨x, stk1, rfl, hx3, hs1⟩ := rvRs_cons hvs
            have hx3 : x = .ref (ex 3 k0) := hx3
            subst hx3
            have fin : ∀ r, call a1 (.inr (3, k0) :: as) aw = some r → rvG p l e R s m args below meth c Q D cT ex A mL (pc + 3, al, r.1.toList ++ rst, r.2, kc + ce, ks + sl) → W p l e R s m args below meth c H locs kc ks Q (F0 m pc ls (us ++ .ref (ex 3 k0) :: stk1)) := by
              intro r hcr kr
              have hM9 := hmt _ r g1 hcr (.ref (ex 3 k0) :: us.reverse) ⟨rfl, hus⟩
              cases h3 : Nat.beq a3 0 with
              | true =>
                rw [h3] at g4
                refine rv_go hA hcB (va_runI (As := us.reverse) (rest := stk1) ⟨hx, hb, hml, hown, hts⟩ hM9 (cwI a2 hts (rvGood_cons m5 rvGood_self) rfl rfl rfl (hts _ m6) (hts _ (rvW_ok g4)) (hts _ m8) m9 ⟨m2, m3, m4⟩ ⟨by show fr + 1 ≤ _; omega, by show 8 + (mL' + 11) + lo ≤ _; omega⟩) ⟨rv_blind, rv_pre hKB hX hA hP hD hS⟩ rfl huslen hls (by rw [List.reverse_reverse]) ?_ hd ⟨by omega, by omega⟩) hw hl hs1 hD hS kr
                exact lv_room (by rw [rvRs_wd hs1]; exact rv_ble f2)
              | false =>
                rw [h3] at g4
                obtain ⟨host, hhost⟩ := rvNw_ok g4
                refine rv_go hA hcB (va_runIN (As := us.reverse) (rest := stk1) ⟨hx, hb, hml, hown, hts⟩ hM9 ⟨va_cnB a2 hts (rvGood_cons m5 rvGood_self) rfl rfl rfl (hX.1 _ hhost) (hts _ m6) ⟨m2, m3, m4⟩ ⟨by show fr + 1 ≤ _; omega, by show 8 + (mL' + 11) + lo ≤ _; omega⟩, m9, hts _ m8⟩ ⟨rv_blind, rv_pre hKB hX hA hP hD hS⟩ rfl huslen hls (by rw [List.reverse_reverse]) ?_ hd ⟨by omega, by omega⟩) hw hl hs1 hD hS kr
                exact lv_room (by rw [rvRs_wd hs1]; exact rv_ble f2)
            split at h
            · rename_i v aw' hcr
              cases h
              exact fin _ hcr k
            · rename_i aw' hcr
              cases h
              exact fin _ hcr k
            · cases h
        · cases h
      · -- static
        have hk : (bif Nat.beq a3 8 then rvW wi (.methodLink own idx arraycopyName) else Nat.blt a1 NM && (Nat.beq (kd a1).1 1 && (Nat.beq (kd a1).2 a2 && (bif Nat.beq a3 0 then rvW wi (.methodLink own idx (yn a1)) else rvNw wi own idx (yn a1))))) = true := hk
        rw [h9] at hk
        obtain ⟨g1, g2⟩ := rv_and (show (Nat.blt a1 NM && (Nat.beq (kd a1).1 1 && (Nat.beq (kd a1).2 a2 && (bif Nat.beq a3 0 then rvW wi (.methodLink own idx (yn a1)) else rvNw wi own idx (yn a1))))) = true from hk)
        obtain ⟨g2, g3⟩ := rv_and g2
        obtain ⟨g3, g4⟩ := rv_and g3
        have g1 := rv_blt g1
        obtain ⟨m1, ⟨m2, m3, m4⟩, m5, m6, -, m7, -⟩ := hM a1 g1
        have m8 := m7 (rv_beq g2)
        rw [rv_beq g3] at m4
        rw [hinf] at m5
        dsimp only at m5
        simp only [cond_false] at h
        cases hcc : (Nat.ble (rvWd rest) 8) with
        | false => rw [hcc] at h; cases h
        | true =>
          rw [hcc] at h
          simp only [cond_true] at h
          have fin : ∀ r, call a1 as aw = some r → rvG p l e R s m args below meth c Q D cT ex A mL (pc + 3, al, r.1.toList ++ rest, r.2, kc + ce, ks + sl) → W p l e R s m args below meth c H locs kc ks Q (F0 m pc ls (us ++ vs)) := by
            intro r hcr kr
            have hM9 := hmt _ r g1 hcr us.reverse hus
            cases h3 : Nat.beq a3 0 with
            | true =>
              rw [h3] at g4
              refine rv_go hA hcB (va_runS (As := us.reverse) (rest := vs) ⟨hx, hb, hml, hown, hts⟩ hM9 (va_cwS a2 hts (rvGood_cons (rvW_ok g4) (rvGood_cons m8 (rvGood_cons m6 (rvGood_cons m5 rvGood_self)))) rfl rfl rfl ⟨m2, m3, m4⟩ ⟨by show fr + 1 ≤ _; omega, by show 8 + (mL' + 11) + lo ≤ _; omega⟩) ⟨rv_blind, rv_pre hKB hX hA hP hD hS⟩ rfl huslen hls (by rw [List.reverse_reverse]) ?_ hd ⟨by omega, by omega⟩) hw hl hvs hD hS kr
              exact lv_room (by rw [rvRs_wd hvs]; exact rv_ble hcc)
            | false =>
              rw [h3] at g4
              obtain ⟨host, hhost⟩ := rvNw_ok g4
              refine rv_go hA hcB (va_runSN (As := us.reverse) (rest := vs) ⟨hx, hb, hml, hown, hts⟩ hM9 ⟨va_cnB a2 hts (rvGood_cons m5 rvGood_self) rfl rfl rfl (hX.1 _ hhost) (hts _ m6) ⟨m2, m3, m4⟩ ⟨by show fr + 1 ≤ _; omega, by show 8 + (mL' + 11) + lo ≤ _; omega⟩, hts _ m8, trivial⟩ ⟨rv_blind, rv_pre hKB hX hA hP hD hS⟩ rfl huslen hls (by rw [List.reverse_reverse]) ?_ hd ⟨by omega, by omega⟩) hw hl hvs hD hS kr
              exact lv_room (by rw [rvRs_wd hvs]; exact rv_ble hcc)
          split at h
          · rename_i v aw' hcr
            cases h
            exact fin _ hcr k
          · rename_i aw' hcr
            cases h
            exact fin _ hcr k
          · cases h
  · cases h
end RVC
end
section
/-! Runs and methods: what rvRun and rvExec answer holds of the machine. -/
section RVR
variable {p : Program} {l : Launch} {e : Env} {R : Room} {s : State} {m : MethodId} {args : Array Value} {below : List Frame} {meth : Method} {c : Code} {Q : State → Prop} {cc : ByteArray} {own : String} {mL : Nat} {D : va_G} {cT cB : Nat → ClassId} {ex : Nat → Nat → Nat} {A : Nat → Prop} {sc : List (Int × Int)} {ini : Bool}
variable {yn : Nat → MethodName} {cd : Nat → ByteArray} {info : Nat → rvM} {rets : Nat → Option FieldType} {kd : Nat → Nat × Nat} {NM : Nat} {call : Nat → List rvV → rvH → rvO} {tab : Nat → Option rvE}
set_option maxHeartbeats 4000000 in
set_option maxRecDepth 100000 in
theorem rvCopy_ok (C : rvCx p s m args meth c cc own mL D cT ex A ini sc) (hB : rvBase) {BF BL wi pc kc ks idx : Nat} {al st : List rvV} {aw : rvH} {o : rvS} (hd : decode cc pc = .ok (.invokestatic idx, 3)) (hk : rvW wi (.methodLink own idx arraycopyName) = true) (hBF : BF ≤ R.frames) (hBL : BL ≤ R.locals)
    (h : rvCopy BF BL pc al st aw kc ks = some o) (k : rvG p l e R s m args below meth c Q D cT ex A mL o) : rvG p l e R s m args below meth c Q D cT ex A mL (pc, al, st, aw, kc, ks) := by
  obtain ⟨hx, hb, hml, hown, hts, hK, hA, hX, hini, hsc⟩ := C
  obtain ⟨-, -, hb3, hb4, hb5⟩ := hB
  intro ws H locs ls stk hw hl hs hP hD hS
  dsimp only at hw hl hs ⊢
  have hls : ls.size = mL := by obtain ⟨-, l9, h9, -⟩ := hl; exact h9.1
  unfold rvCopy at h
  split at h
  · rename_i n dp x0 sp y0 rst
    obtain ⟨y1, stk1, rfl, ⟨n1, rfl, p1, q1⟩, hs1⟩ := rvRs_cons hs
    obtain ⟨y2, stk2, rfl, ⟨n2, rfl, p2, q2⟩, hs2⟩ := rvRs_cons hs1
    obtain ⟨y3, stk3, rfl, ⟨qd, hqd, rfl⟩, hs3⟩ := rvRs_cons hs2
    obtain ⟨y4, stk4, rfl, ⟨n4, rfl, p4, q4⟩, hs4⟩ := rvRs_cons hs3
    obtain ⟨y5, stk5, rfl, ⟨qs, hqs, rfl⟩, hs5⟩ := rvRs_cons hs4
    split at h
    · rename_i m0 d ov m1 d1 ov1 hc1 hc2
      obtain ⟨hc, rfl⟩ := rv_bif h
      obtain ⟨c1, hc⟩ := rv_and hc
      obtain ⟨c2, hc⟩ := rv_and hc
      obtain ⟨c3, hc⟩ := rv_and hc
      obtain ⟨c4, hc⟩ := rv_and hc
      obtain ⟨c5, hc⟩ := rv_and hc
      obtain ⟨c6, hc⟩ := rv_and hc
      obtain ⟨c7, hc⟩ := rv_and hc
      obtain ⟨c8, hc⟩ := rv_and hc
      obtain ⟨c9, c10⟩ := rv_and hc
      have c3 := rv_beq c3
      subst c3
      have c2 := of_decide_eq_true c2
      have c5 := of_decide_eq_true c5
      have c7 := of_decide_eq_true c7
      have c8 := rv_ble c8
      have c9 := rv_ble c9
      have c10 := rv_blt c10
      obtain ⟨e1, -⟩ := rv_one c1 p1 q1
      obtain ⟨e2, -⟩ := rv_one c4 p2 q2
      obtain ⟨e4, -⟩ := rv_one c6 p4 q4
      obtain ⟨⟨as, es⟩, hqs1, hces⟩ := rvWo_get hw hc1
      obtain ⟨⟨adr, ed⟩, hqd1, hced⟩ := rvWo_get hw hc2
      have hqa := rvAd_ref hqs1 hqs
      subst hqa
      have hqb := rvAd_ref hqd1 hqd
      subst hqb
      rcases hces with ⟨-, f, hes, hf⟩ | ⟨h0, -⟩ | ⟨h0, -⟩
      · rcases hced with ⟨-, g, hed, hg⟩ | ⟨h0, -⟩ | ⟨h0, -⟩
        · have hes : es = .inl (cT 0, m0, .inl f) := hes
          subst hes
          have hed : ed = .inl (cT 0, m0, .inl g) := hed
          subst hed
          have z1 : ∀ z : Int32, z.toInt = 0 → ¬ z < 0 ∧ z.toNatClampNeg = 0 := fun z hz => ⟨by
            rw [Int32.lt_iff_toInt_lt]
            show ¬ z.toInt < 0
            omega, by
            show z.toInt.toNat = 0
            omega⟩
          obtain ⟨w1, w2⟩ := z1 n4 (by omega)
          obtain ⟨w3, w4⟩ := z1 n2 (by omega)
          have w5 : ¬ n1 < 0 := by
            rw [Int32.lt_iff_toInt_lt]
            show ¬ n1.toInt < 0
            omega
          have w6 : n1.toNatClampNeg = m0 := by
            show n1.toInt.toNat = m0
            omega
          refine va_copyi (D := D) hx hb (by rw [hml, hls]) hown (hts _ (rvW_ok hk)) (hts _ hb3) (hts _ hb4) (hts _ hb5) hK hP hD hS y0 x0 0 0 hqs1 hqd1 rfl rfl rfl w1 w3 w5 (by rw [w2, w6]; omega) (by rw [w4, w6]; omega) (fun i _ => rfl) (by omega) ?_ hd (fun H1 locs1 hP1 hD1 hS1 => ?_)
          · rw [rvRs_wd hs5]
            have : nativeFrameWords "java/lang/System" "arraycopy" 5 + 11 ≤ 60 := by decide +kernel
            omega
          · have ea := rvAd_set (e := .inl (cT 0, m0, .inl (va_cpy f g n4.toNatClampNeg n2.toNatClampNeg n1.toNatClampNeg))) hqd1
            refine k _ H1 locs1 ls stk5 ?_ ?_ ?_ hP1 hD1 hS1
            · rw [ea]
              refine rvWo_set hw (Or.inl ⟨by decide, _, rfl, fun j hj => ?_⟩)
              have ej : va_cpy f g n4.toNatClampNeg n2.toNatClampNeg n1.toNatClampNeg j = f j := by
                rw [w2, w4, w6]
                exact sb_cpy0 hj
              rw [ej]
              exact hf j hj
            · rw [ea]; exact hl
            · rw [ea]; exact hs5
        · exact absurd h0 (by decide)
        · exact absurd h0 (by decide)
      · exact absurd h0 (by decide)
      · exact absurd h0 (by decide)
    · cases h
  · cases h
set_option maxHeartbeats 4000000 in
set_option maxRecDepth 100000 in
theorem rvNext_ok (C : rvCx p s m args meth c cc own mL D cT ex A ini sc) (hB : rvBase) (hcB : ∀ q, q < 6 → cB q = cT q) (hM : ∀ j, j < NM → rvMp yn cd info rets kd j) (hcall : ∀ j as aw r, j < NM → call j as aw = some r → rvMet l D cB ex yn cd info rets j as aw r) (hT : rvTk yn kd NM own cc ini tab)
    {stop BF BC BS BL pc kc ks : Nat} {al st : List rvV} {aw : rvH} {o : rvS} (hBF : BF ≤ R.frames) (hBC : BC ≤ R.cells) (hBS : BS ≤ R.slots) (hBL : BL ≤ R.locals)
    (h : rvNext rvTy rvNf rvTxt sc call info tab stop BF BC BS BL mL pc al st aw kc ks = some (some o)) (k : rvG p l e R s m args below meth c Q D cT ex A mL o) : rvG p l e R s m args below meth c Q D cT ex A mL (pc, al, st, aw, kc, ks) := by
  unfold rvNext at h
  cases hst : Nat.beq pc stop with
  | true => rw [hst] at h; cases h
  | false =>
    rw [hst] at h
    simp only [cond_false] at h
    split at h
    · cases h
    · rename_i i len a1 a2 a3 wi htab
      obtain ⟨hd, hk1, hk2⟩ := hT pc i len a1 a2 a3 wi htab
      split at h
      · cases h
      · cases h
      · cases h
      · cases h
      · rename_i idx
        split at h
        · rename_i s9 hs9
          cases h
          exact rvInv_ok C hcB hM hcall hd hk2 (Or.inl ⟨idx, rfl, rfl⟩) hBF hBC hBS hBL hs9 k
        · cases h
      · rename_i idx
        cases h9 : Nat.beq a3 9 with
        | true =>
          rw [h9] at h
          simp only [cond_true] at h
          split at h
          · rename_i z rst
            cases hcc : (Nat.ble 1 BF && Nat.ble (rvWd rst + 12) BL) with
            | false => rw [hcc] at h; cases h
            | true =>
              rw [hcc] at h
              cases h
              obtain ⟨c1, c2⟩ := rv_and hcc
              have c1 := rv_ble c1
              have c2 := rv_ble c2
              have hk2 : (bif Nat.beq a3 9 then rvW wi (.methodLink own idx objectInit) else Nat.blt a1 NM && (Nat.beq (kd a1).1 2 && (Nat.beq (kd a1).2 a2 && (bif Nat.beq a3 0 then rvW wi (.methodLink own idx (yn a1)) else rvNw wi own idx (yn a1))))) = true := hk2
              rw [h9] at hk2
              obtain ⟨hx, hb, hml, hown, hts, hK, hA, hX, hini, hsc⟩ := C
              intro ws H locs ls stk hw hl hs hP hD hS
              dsimp only at hw hl hs ⊢
              have hls : ls.size = mL := by obtain ⟨-, l9, hz9, -⟩ := hl; exact hz9.1
              obtain ⟨x, stk1, rfl, ⟨q, hq, rfl⟩, hs1⟩ := rvRs_cons hs
              refine W.objInit hx hb hown (hts _ (rvW_ok hk2)) (hts _ hB.1) (hts _ hB.2.1) rfl (by rw [hml]; exact hls) rfl hd (by omega) ?_ ?_
              · show 2 * 0 + (stk1.map fun v => v.category).sum + 12 ≤ R.locals
                rw [rvRs_wd hs1]
                omega
              · exact W.eq (g2 := F0 m (pc + 3) ls stk1) rfl (k ws H locs ls _ hw hl hs1 hP hD hS)
          · cases h
        | false =>
          rw [h9] at h
          simp only [cond_false] at h
          split at h
          · rename_i s9 hs9
            cases h
            exact rvInv_ok C hcB hM hcall hd hk2 (Or.inr (Or.inl ⟨idx, rfl, rfl, h9⟩)) hBF hBC hBS hBL hs9 k
          · cases h
      · rename_i idx
        cases h9 : Nat.beq a3 8 with
        | true =>
          rw [h9] at h
          simp only [cond_true] at h
          have hk2 : (bif Nat.beq a3 8 then rvW wi (.methodLink own idx arraycopyName) else Nat.blt a1 NM && (Nat.beq (kd a1).1 1 && (Nat.beq (kd a1).2 a2 && (bif Nat.beq a3 0 then rvW wi (.methodLink own idx (yn a1)) else rvNw wi own idx (yn a1))))) = true := hk2
          rw [h9] at hk2
          split at h
          · rename_i s9 hs9
            cases h
            exact rvCopy_ok C hB hd hk2 hBF hBL hs9 k
          · cases h
        | false =>
          rw [h9] at h
          simp only [cond_false] at h
          split at h
          · rename_i s9 hs9
            cases h
            exact rvInv_ok C hcB hM hcall hd hk2 (Or.inr (Or.inr ⟨idx, rfl, rfl, h9⟩)) hBF hBC hBS hBL hs9 k
          · cases h
      · split at h
        · rename_i s9 hs9
          cases h
          exact rvStep_ok C hd hk1 hBC hBS hs9 k
        · cases h
theorem rvRun_ok (C : rvCx p s m args meth c cc own mL D cT ex A ini sc) (hB : rvBase) (hcB : ∀ q, q < 6 → cB q = cT q) (hM : ∀ j, j < NM → rvMp yn cd info rets kd j) (hcall : ∀ j as aw r, j < NM → call j as aw = some r → rvMet l D cB ex yn cd info rets j as aw r) (hT : rvTk yn kd NM own cc ini tab)
    {stop BF BC BS BL : Nat} (hBF : BF ≤ R.frames) (hBC : BC ≤ R.cells) (hBS : BS ≤ R.slots) (hBL : BL ≤ R.locals) {o : rvS} (k : rvG p l e R s m args below meth c Q D cT ex A mL o) :
    ∀ (n pc : Nat) (al st : List rvV) (aw : rvH) (kc ks : Nat), rvRun rvTy rvNf rvTxt sc call info tab stop BF BC BS BL mL n pc al st aw kc ks = some o → rvG p l e R s m args below meth c Q D cT ex A mL (pc, al, st, aw, kc, ks)
  | 0, pc, al, st, aw, kc, ks, h => by
      have h : some (pc, al, st, aw, kc, ks) = some o := h
      cases h
      exact k
  | n + 1, pc, al, st, aw, kc, ks, h => by
      have h : (match rvNext rvTy rvNf rvTxt sc call info tab stop BF BC BS BL mL pc al st aw kc ks with
        | none => none
        | some none => some (pc, al, st, aw, kc, ks)
        | some (some (pc, al, st, aw, kc, ks)) => rvRun rvTy rvNf rvTxt sc call info tab stop BF BC BS BL mL n pc al st aw kc ks) = some o := h
      split at h
      · cases h
      · cases h
        exact k
      · rename_i pc1 al1 st1 aw1 kc1 ks1 hn
        exact rvNext_ok C hB hcB hM hcall hT hBF hBC hBS hBL hn (rvRun_ok C hB hcB hM hcall hT hBF hBC hBS hBL k n pc1 al1 st1 aw1 kc1 ks1 h)
end RVR
section RVM
variable {l : Launch} {D : va_G} {cB : Nat → ClassId} {ex : Nat → Nat → Nat} {yn : Nat → MethodName} {cd : Nat → ByteArray} {info : Nat → rvM} {rets : Nat → Option FieldType} {kd : Nat → Nat × Nat} {NM : Nat} {tabs : Nat → Nat → Option rvE} {orc : Nat → List rvV → rvH → rvO}
set_option maxHeartbeats 4000000 in
set_option maxRecDepth 100000 in
/-- a method by a run of its body -/
theorem rvBody_ok {call : Nat → List rvV → rvH → rvO} (hB : rvBase) (hM : ∀ j, j < NM → rvMp yn cd info rets kd j) (hT : ∀ j, j < NM → rvTk yn kd NM (yn j).cls (cd j) (decide ((yn j).name = "<init>")) (tabs j))
    (hcall : ∀ j as aw r, j < NM → call j as aw = some r → rvMet l D cB ex yn cd info rets j as aw r) {n j : Nat} (hj : j < NM) {as : List rvV} {aw : rvH} {r : Option rvV × rvH} (hent : rvLen (rvEnt as) ≤ (info j).1)
    (h : rvEnd (tabs j) (rets j) (info j).2.2.1 (info j).2.2.2.1 (rvRun rvTy rvNf rvTxt [] call info (tabs j) 99999999 (info j).2.1 (info j).2.2.1 (info j).2.2.2.1 (info j).2.2.2.2.1 (info j).1 n 0 (rvEnt as ++ List.replicate ((info j).1 - rvLen (rvEnt as)) rvU) [] aw 0 0) = some r) : rvMet l D cB ex yn cd info rets j as aw r := by
  intro ws xs sz hw hxs
  obtain ⟨m1, -, -, -, -, -, -⟩ := hM j hj
  refine Met.ofW (cc := cd j) (maxL := (info j).1) (ret := rets j) m1 rfl ?_
  intro p e s m args below meth c s₁ B hml hv
  obtain ⟨rfl, hsz, hP, hK, hD0, hX⟩ := hv
  subst hsz
  have hx := B.exec
  have hb := B.bytes
  have hr := B.returns
  have hlocks := B.notSynchronized
  have hown : s.vm.findClass (yn j).cls = some m.cls := findClass_of_methodNamed B.named
  have hts : ∀ w ∈ rvWl, w.before xs.toArray s = true := fun w hw9 => atoms_spec (ws := Cond.code (yn j) (cd j) (info j).1 (rets j) :: rvWl) B.pre w (List.mem_cons_of_mem _ hw9)
  have hnm : meth.name = (yn j).name := (name_of_methodNamed B.named B.method).1
  have hD := hD0.self (sz := s.heap.size)
  have hA : ∀ q : Nat, s.heap.size ≤ q → va_A ws s.heap.size q := fun q h9 => Or.inr h9
  have hcB : ∀ q, q < 6 → cB q = rvCt cB (rvAd ws) q := rvCt_c cB (rvAd ws)
  have C : rvCx p s m xs.toArray meth c (cd j) (yn j).cls (info j).1 D (rvCt cB (rvAd ws)) ex (va_A ws s.heap.size) (decide ((yn j).name = "<init>")) [] :=
    ⟨hx, hb, hml, hown, hts, by rw [rvTys_c hcB]; exact hK, hA, hX, fun q => by rw [hnm]; exact of_decide_eq_true q, Or.inl rfl⟩
  unfold rvEnd at h
  split at h
  · rename_i pc1 al1 st1 aw1 kc1 ks1 hrun
    cases hbud : (Nat.ble kc1 (info j).2.2.1 && Nat.ble ks1 (info j).2.2.2.1) with
    | false => rw [hbud] at h; cases h
    | true =>
      rw [hbud] at h
      simp only [cond_true] at h
      obtain ⟨b1, b2⟩ := rv_and hbud
      have b1 := rv_ble b1
      have b2 := rv_ble b2
      have key : rvG p l e (headSpec (Cond.code (yn j) (cd j) (info j).1 (rets j) :: rvWl) (rvRm (info j))).room s m xs.toArray below meth c (MQ below (rvQ D cB ex ws s.heap.size r) xs.toArray s (info j).2.2.1 (info j).2.2.2.1 (va_A ws s.heap.size)) D (rvCt cB (rvAd ws)) ex (va_A ws s.heap.size) (info j).1 (pc1, al1, st1, aw1, kc1, ks1) := by
        intro ws1 H locs ls stk hw1 hl1 hs1 hP1 hD1 hS1
        dsimp only at hw1 hl1 hs1 ⊢
        obtain ⟨hw2, t1, ht1⟩ := rvWo_out hw1
        refine W.widen (k := (info j).2.2.1) (n := (info j).2.2.2.1) b1 b2 ?_
        split at h
        · rename_i i0 rst htab
          obtain ⟨hd, -, -⟩ := hT j hj pc1 .ireturn _ _ _ _ _ htab
          split at h
          · rename_i a ty hty
            obtain ⟨hc, rfl⟩ := rv_bif h
            obtain ⟨x, stk1, rfl, ⟨n1, rfl, p1, q1⟩, hs2⟩ := rvRs_cons hs1
            have hnil := rvRs_nil hs2
            subst hnil
            obtain ⟨g1, -⟩ := rvFit_ok (ad := rvAd ws1) (ex := ex) hc ⟨n1, rfl, p1, q1⟩
            exact W.zret hx hb (hr.trans hty) g1 (fun t ht hW => ⟨_, ws1, rfl, ⟨t1, ht1⟩, hw2, ⟨n1, rfl, p1, q1⟩, by rw [ht]; exact hP1, hD1, hS1.F ht⟩) hS1.2.2 hd
          · cases h
        · rename_i i0 rst htab
          obtain ⟨hd, -, -⟩ := hT j hj pc1 .lreturn _ _ _ _ _ htab
          split at h
          · rename_i z hty
            cases h
            obtain ⟨x, stk1, rfl, ⟨n1, rfl⟩, hs2⟩ := rvRs_cons hs1
            have hnil := rvRs_nil hs2
            subst hnil
            exact W.lret hx hb (hr.trans hty) (fun t ht hW => ⟨_, ws1, rfl, ⟨t1, ht1⟩, hw2, ⟨n1, rfl⟩, by rw [ht]; exact hP1, hD1, hS1.F ht⟩) hS1.2.2 hd
          · cases h
        · rename_i i0 rst htab
          obtain ⟨hd, -, -⟩ := hT j hj pc1 .return_ _ _ _ _ _ htab
          split at h
          · rename_i hty
            cases h
            have hnil := rvRs_nil hs1
            subst hnil
            exact W.vret hx hb (hr.trans hty) (fun t ht hW => ⟨none, ws1, rfl, ⟨t1, ht1⟩, hw2, trivial, by rw [ht]; exact hP1, hD1, hS1.F ht⟩) hS1.2.2 hd
          · cases h
        · cases h
      have hg := rvRun_ok C hB hcB hM hcall (hT j hj) (Nat.le_refl (info j).2.1) (Nat.le_refl (info j).2.2.1) (Nat.le_refl (info j).2.2.2.1) (Nat.le_refl (info j).2.2.2.2.1) key n 0 _ [] aw 0 0 hrun
      rw [lg_entry_eq]
      exact hg ws s.heap [] _ [] (rvWo_in hw) (rvLo_entry hxs hent) trivial hP hD va_S.rf
  · cases h
theorem rvExec_ok (hB : rvBase) (hM : ∀ j, j < NM → rvMp yn cd info rets kd j) (hT : ∀ j, j < NM → rvTk yn kd NM (yn j).cls (cd j) (decide ((yn j).name = "<init>")) (tabs j))
    (horc : ∀ j as aw r, j < NM → orc j as aw = some r → rvMet l D cB ex yn cd info rets j as aw r) (n : Nat) : ∀ (d j : Nat) (as : List rvV) (aw : rvH) (r : Option rvV × rvH), j < NM → rvExec rvTy rvNf rvTxt orc info rets tabs n d j as aw = some r → rvMet l D cB ex yn cd info rets j as aw r
  | 0, j, as, aw, r, hj, h => horc j as aw r hj h
  | d + 1, j, as, aw, r, hj, h => by
      have h : (match orc j as aw with
        | some r => some r
        | none => match info j with
          | (mL, fr, ce, sl, lo, _) => bif Nat.ble (rvLen (rvEnt as)) mL then rvEnd (tabs j) (rets j) ce sl (rvRun rvTy rvNf rvTxt [] (rvExec rvTy rvNf rvTxt orc info rets tabs n d) info (tabs j) 99999999 fr ce sl lo mL n 0 (rvEnt as ++ List.replicate (mL - rvLen (rvEnt as)) rvU) [] aw 0 0) else none) = some r := h
      split at h
      · rename_i r9 h9
        cases h
        exact horc j as aw r hj h9
      · rcases hinf : info j with ⟨mL, fr, ce, sl, lo, cls⟩
        rw [hinf] at h
        dsimp only at h
        cases hb : Nat.ble (rvLen (rvEnt as)) mL with
        | false => rw [hb] at h; cases h
        | true =>
          rw [hb] at h
          simp only [cond_true] at h
          refine rvBody_ok hB hM hT (fun j9 as9 aw9 r9 hj9 h9 => rvExec_ok hB hM hT horc n d j9 as9 aw9 r9 hj9 h9) (n := n) hj (by rw [hinf]; exact rv_ble hb) ?_
          rw [hinf]
          exact h
end RVM
end
section
def rvFind (l : List (Nat × rvE)) (pc : Nat) : Option rvE := match l with
  | [] => none
  | (k, e) :: t => bif Nat.beq k pc then some e else rvFind t pc
def rvFind2 (l : List (Nat × List (Nat × rvE))) (pc : Nat) : Option rvE := match l with
  | [] => none
  | (k, c) :: t => bif Nat.blt pc k then rvFind c pc else rvFind2 t pc
theorem rvFind_mem {pc : Nat} {e : rvE} : ∀ {l : List (Nat × rvE)}, rvFind l pc = some e → (pc, e) ∈ l
  | [], h => by cases h
  | (k, e0) :: t, h => by
      have h : (bif Nat.beq k pc then some e0 else rvFind t pc) = some e := h
      cases hb : Nat.beq k pc with
      | true =>
        rw [hb] at h
        cases h
        have e1 := rv_beq hb
        subst e1
        exact List.mem_cons_self
      | false =>
        rw [hb] at h
        exact List.mem_cons_of_mem _ (rvFind_mem h)
theorem rvFind2_mem {pc : Nat} {e : rvE} : ∀ {l : List (Nat × List (Nat × rvE))}, rvFind2 l pc = some e → ∃ ch ∈ l, (pc, e) ∈ ch.2
  | [], h => by cases h
  | (k, c0) :: t, h => by
      have h : (bif Nat.blt pc k then rvFind c0 pc else rvFind2 t pc) = some e := h
      cases hb : Nat.blt pc k with
      | true =>
        rw [hb] at h
        exact ⟨(k, c0), List.mem_cons_self, rvFind_mem h⟩
      | false =>
        rw [hb] at h
        obtain ⟨ch, h1, h2⟩ := rvFind2_mem (l := t) h
        exact ⟨ch, List.mem_cons_of_mem _ h1, h2⟩
def tb_0 : List (Nat × List (Nat × rvE)) := [(24, [(0, (.aload_n 0, 1, 0, 0, 0, 0)), (1, (.invokespecial 3, 3, 0, 0, 9, 150)), (4, (.aload_n 0, 1, 0, 0, 0, 0)), (5, (.new 9, 3, 9, 0, 0, 153)), (8, (.dup, 1, 0, 0, 0, 0)), (9, (.invokespecial 11, 3, 1, 0, 0, 155)), (12, (.putfield 12, 3, 11, 0, 1, 553)), (15, (.aload_n 0, 1, 0, 0, 0, 0)), (16, (.iconst 2, 1, 0, 0, 0, 0)), (17, (.anewarray 16, 3, 4, 0, 0, 272)), (20, (.putfield 18, 3, 11, 4, 1, 557)), (23, (.aload_n 0, 1, 0, 0, 0, 0))]), (47, [(24, (.iconst 2, 1, 0, 0, 0, 0)), (25, (.newarray .boolean, 2, 2, 0, 0, 292)), (27, (.putfield 22, 3, 11, 5, 1, 558)), (30, (.aload_n 0, 1, 0, 0, 0, 0)), (31, (.iconst 2, 1, 0, 0, 0, 0)), (32, (.anewarray 26, 3, 5, 0, 0, 274)), (35, (.putfield 28, 3, 11, 6, 1, 559)), (38, (.aload_n 0, 1, 0, 0, 0, 0)), (39, (.new 32, 3, 1, 0, 0, 276)), (42, (.dup, 1, 0, 0, 0, 0)), (43, (.aload_n 0, 1, 0, 0, 0, 0)), (44, (.getfield 12, 3, 11, 0, 1, 553))]), (73, [(47, (.invokespecial 34, 3, 10, 1, 0, 278)), (50, (.putfield 37, 3, 11, 7, 1, 560)), (53, (.aload_n 0, 1, 0, 0, 0, 0)), (54, (.new 41, 3, 7, 0, 0, 293)), (57, (.dup, 1, 0, 0, 0, 0)), (58, (.aload_n 0, 1, 0, 0, 0, 0)), (59, (.getfield 12, 3, 11, 0, 1, 553)), (62, (.invokespecial 43, 3, 11, 1, 0, 295)), (65, (.putfield 44, 3, 11, 8, 1, 561)), (68, (.aload_n 0, 1, 0, 0, 0, 0)), (69, (.new 48, 3, 0, 0, 0, 312)), (72, (.dup, 1, 0, 0, 0, 0))]), (101, [(73, (.invokespecial 50, 3, 12, 0, 1, 314)), (76, (.putfield 51, 3, 11, 9, 1, 562)), (79, (.aload_n 0, 1, 0, 0, 0, 0)), (80, (.new 55, 3, 5, 0, 0, 346)), (83, (.dup, 1, 0, 0, 0, 0)), (84, (.invokespecial 57, 3, 13, 0, 1, 348)), (87, (.putfield 58, 3, 11, 10, 1, 563)), (90, (.aload_n 0, 1, 0, 0, 0, 0)), (91, (.new 62, 3, 8, 0, 0, 387)), (94, (.dup, 1, 0, 0, 0, 0)), (95, (.invokespecial 64, 3, 14, 0, 1, 389)), (98, (.putfield 65, 3, 11, 11, 1, 564))]), (125, [(101, (.aload_n 0, 1, 0, 0, 0, 0)), (102, (.new 69, 3, 4, 0, 0, 411)), (105, (.dup, 1, 0, 0, 0, 0)), (106, (.invokespecial 71, 3, 15, 0, 1, 413)), (109, (.putfield 72, 3, 11, 12, 1, 565)), (112, (.new 76, 3, 10, 0, 0, 426)), (115, (.dup, 1, 0, 0, 0, 0)), (116, (.invokespecial 78, 3, 16, 0, 1, 428)), (119, (.astore_n 1, 1, 0, 0, 0, 0)), (120, (.aload_n 0, 1, 0, 0, 0, 0)), (121, (.new 16, 3, 2, 0, 0, 272)), (124, (.dup, 1, 0, 0, 0, 0))]), (149, [(125, (.aload_n 1, 1, 0, 0, 0, 0)), (126, (.invokespecial 79, 3, 17, 1, 0, 476)), (129, (.putfield 82, 3, 11, 1, 1, 554)), (132, (.aload_n 0, 1, 0, 0, 0, 0)), (133, (.new 16, 3, 2, 0, 0, 272)), (136, (.dup, 1, 0, 0, 0, 0)), (137, (.aload_n 1, 1, 0, 0, 0, 0)), (138, (.invokespecial 79, 3, 17, 1, 0, 476)), (141, (.putfield 86, 3, 11, 2, 1, 555)), (144, (.aload_n 0, 1, 0, 0, 0, 0)), (145, (.new 89, 3, 3, 0, 0, 538)), (148, (.dup, 1, 0, 0, 0, 0))]), (171, [(149, (.aload_n 1, 1, 0, 0, 0, 0)), (150, (.invokespecial 91, 3, 18, 1, 0, 540)), (153, (.putfield 92, 3, 11, 3, 1, 556)), (156, (.iconst 0, 1, 0, 0, 0, 0)), (157, (.istore_n 2, 1, 0, 0, 0, 0)), (158, (.iload_n 2, 1, 0, 0, 0, 0)), (159, (.iconst 2, 1, 0, 0, 0, 0)), (160, (.if_icmp .ge 23, 3, 0, 0, 0, 0)), (163, (.aload_n 0, 1, 0, 0, 0, 0)), (164, (.getfield 18, 3, 11, 4, 1, 557)), (167, (.iload_n 2, 1, 0, 0, 0, 0)), (168, (.new 16, 3, 2, 0, 0, 272))]), (99999, [(171, (.dup, 1, 0, 0, 0, 0)), (172, (.aload_n 1, 1, 0, 0, 0, 0)), (173, (.invokespecial 79, 3, 17, 1, 0, 476)), (176, (.aastore, 1, 0, 0, 0, 0)), (177, (.iinc 2 1, 3, 0, 0, 0, 0)), (180, (.goto (-22), 3, 0, 0, 0, 0)), (183, (.return_, 1, 0, 0, 0, 0))])]
def tb_1 : List (Nat × List (Nat × rvE)) := [(25, [(0, (.aload_n 0, 1, 0, 0, 0, 0)), (1, (.invokespecial 3, 3, 0, 0, 9, 158)), (4, (.aload_n 0, 1, 0, 0, 0, 0)), (5, (.sipush 940, 3, 0, 0, 0, 0)), (8, (.newarray .byte, 2, 1, 0, 0, 269)), (10, (.putfield 9, 3, 9, 0, 1, 211)), (13, (.aload_n 0, 1, 0, 0, 0, 0)), (14, (.bipush 23, 2, 0, 0, 0, 0)), (16, (.newarray .long, 2, 3, 0, 0, 270)), (18, (.putfield 15, 3, 9, 1, 1, 213)), (21, (.aload_n 0, 1, 0, 0, 0, 0)), (22, (.sipush 941, 3, 0, 0, 0, 0))]), (52, [(25, (.newarray .byte, 2, 1, 0, 0, 269)), (27, (.putfield 19, 3, 9, 3, 1, 217)), (30, (.aload_n 0, 1, 0, 0, 0, 0)), (31, (.sipush 941, 3, 0, 0, 0, 0)), (34, (.newarray .int, 2, 0, 0, 0, 271)), (36, (.putfield 22, 3, 9, 4, 1, 218)), (39, (.aload_n 0, 1, 0, 0, 0, 0)), (40, (.sipush 941, 3, 0, 0, 0, 0)), (43, (.newarray .int, 2, 0, 0, 0, 271)), (45, (.putfield 26, 3, 9, 5, 1, 219)), (48, (.aload_n 0, 1, 0, 0, 0, 0)), (49, (.sipush 941, 3, 0, 0, 0, 0))]), (74, [(52, (.newarray .long, 2, 3, 0, 0, 270)), (54, (.putfield 29, 3, 9, 6, 1, 220)), (57, (.iconst 0, 1, 0, 0, 0, 0)), (58, (.istore_n 1, 1, 0, 0, 0, 0)), (59, (.lconst 0, 1, 0, 0, 0, 0)), (60, (.lstore_n 2, 1, 0, 0, 0, 0)), (61, (.iconst 0, 1, 0, 0, 0, 0)), (62, (.istore 4, 2, 0, 0, 0, 0)), (64, (.iload 4, 2, 0, 0, 0, 0)), (66, (.ldc 32, 2, 0, 0, 0, 159)), (68, (.invokevirtual 34, 3, 2, 0, 0, 160)), (71, (.if_icmp .ge 53, 3, 0, 0, 0, 0))]), (100, [(74, (.iload_n 1, 1, 0, 0, 0, 0)), (75, (.bipush 23, 2, 0, 0, 0, 0)), (77, (.if_icmp .ge 47, 3, 0, 0, 0, 0)), (80, (.ldc 32, 2, 0, 0, 0, 159)), (82, (.iload 4, 2, 0, 0, 0, 0)), (84, (.invokevirtual 40, 3, 4, 1, 0, 170)), (87, (.istore 5, 2, 0, 0, 0, 0)), (89, (.iload 5, 2, 0, 0, 0, 0)), (91, (.bipush 32, 2, 0, 0, 0, 0)), (93, (.if_icmp .ne 18, 3, 0, 0, 0, 0)), (96, (.aload_n 0, 1, 0, 0, 0, 0)), (97, (.getfield 15, 3, 9, 1, 1, 213))]), (121, [(100, (.iload_n 1, 1, 0, 0, 0, 0)), (101, (.lload_n 2, 1, 0, 0, 0, 0)), (102, (.lastore, 1, 0, 0, 0, 0)), (103, (.lconst 0, 1, 0, 0, 0, 0)), (104, (.lstore_n 2, 1, 0, 0, 0, 0)), (105, (.iinc 1 1, 3, 0, 0, 0, 0)), (108, (.goto 10, 3, 0, 0, 0, 0)), (111, (.lload_n 2, 1, 0, 0, 0, 0)), (112, (.iload 5, 2, 0, 0, 0, 0)), (114, (.invokestatic 44, 3, 9, 2, 0, 208)), (117, (.lstore_n 2, 1, 0, 0, 0, 0)), (118, (.iinc 4 1, 3, 0, 0, 0, 0))]), (99999, [(121, (.goto (-57), 3, 0, 0, 0, 0)), (124, (.return_, 1, 0, 0, 0, 0))])]
def tb_2 : List (Nat × List (Nat × rvE)) := [(99999, [(0, (.aload_n 0, 1, 0, 0, 0, 0)), (1, (.getfield 9, 3, 100, 0, 0, 2096)), (4, (.arraylength, 1, 0, 0, 0, 0)), (5, (.aload_n 0, 1, 0, 0, 0, 0)), (6, (.invokevirtual 335, 3, 3, 0, 0, 164)), (9, (.ishr, 1, 0, 0, 0, 0)), (10, (.ireturn, 1, 0, 0, 0, 0))])]
def tb_3 : List (Nat × List (Nat × rvE)) := [(99999, [(0, (.getstatic 38, 3, 0, 0, 0, 168)), (3, (.ifCond .eq 10, 3, 0, 0, 0, 0)), (6, (.aload_n 0, 1, 0, 0, 0, 0)), (7, (.getfield 15, 3, 100, 1, 0, 2097)), (10, (.goto 4, 3, 0, 0, 0, 0)), (14, (.ireturn, 1, 0, 0, 0, 0))])]
def tb_4 : List (Nat × List (Nat × rvE)) := [(99999, [(0, (.aload_n 0, 1, 0, 0, 0, 0)), (1, (.invokevirtual 492, 3, 5, 0, 0, 174)), (4, (.ifCond .eq 12, 3, 0, 0, 0, 0)), (7, (.aload_n 0, 1, 0, 0, 0, 0)), (8, (.getfield 9, 3, 100, 0, 0, 2096)), (11, (.iload_n 1, 1, 0, 0, 0, 0)), (12, (.invokestatic 495, 3, 6, 2, 0, 178)), (15, (.ireturn, 1, 0, 0, 0, 0))])]
def tb_5 : List (Nat × List (Nat × rvE)) := [(99999, [(0, (.getstatic 38, 3, 0, 0, 0, 168)), (3, (.ifCond .eq 14, 3, 0, 0, 0, 0)), (6, (.aload_n 0, 1, 0, 0, 0, 0)), (7, (.getfield 15, 3, 100, 1, 0, 2097)), (10, (.ifCond .ne 7, 3, 0, 0, 0, 0)), (13, (.iconst 1, 1, 0, 0, 0, 0)), (14, (.goto 4, 3, 0, 0, 0, 0)), (18, (.ireturn, 1, 0, 0, 0, 0))])]
def tb_6 : List (Nat × List (Nat × rvE)) := [(99999, [(0, (.iload_n 1, 1, 0, 0, 0, 0)), (1, (.aload_n 0, 1, 0, 0, 0, 0)), (2, (.arraylength, 1, 0, 0, 0, 0)), (3, (.invokestatic 9, 3, 7, 2, 0, 181)), (6, (.aload_n 0, 1, 0, 0, 0, 0)), (7, (.iload_n 1, 1, 0, 0, 0, 0)), (8, (.baload, 1, 0, 0, 0, 0)), (9, (.sipush 255, 3, 0, 0, 0, 0)), (12, (.iand, 1, 0, 0, 0, 0)), (13, (.i2c, 1, 0, 0, 0, 0)), (14, (.ireturn, 1, 0, 0, 0, 0))])]
def tb_7 : List (Nat × List (Nat × rvE)) := [(99999, [(0, (.iload_n 0, 1, 0, 0, 0, 0)), (1, (.iload_n 1, 1, 0, 0, 0, 0)), (2, (.getstatic 1053, 3, 1, 0, 0, 184)), (5, (.invokestatic 1059, 3, 8, 3, 0, 186)), (8, (.pop, 1, 0, 0, 0, 0)), (9, (.return_, 1, 0, 0, 0, 0))])]
def tb_8 : List (Nat × List (Nat × rvE)) := [(99999, [(0, (.iload_n 0, 1, 0, 0, 0, 0)), (1, (.ifCond .lt 8, 3, 0, 0, 0, 0)), (4, (.iload_n 0, 1, 0, 0, 0, 0)), (5, (.iload_n 1, 1, 0, 0, 0, 0)), (6, (.if_icmp .lt 10, 3, 0, 0, 0, 0)), (16, (.iload_n 0, 1, 0, 0, 0, 0)), (17, (.ireturn, 1, 0, 0, 0, 0))])]
def tb_9 : List (Nat × List (Nat × rvE)) := [(99999, [(0, (.lload_n 0, 1, 0, 0, 0, 0)), (1, (.iconst 5, 1, 0, 0, 0, 0)), (2, (.lshl, 1, 0, 0, 0, 0)), (3, (.iload_n 2, 1, 0, 0, 0, 0)), (4, (.bipush 97, 2, 0, 0, 0, 0)), (6, (.isub, 1, 0, 0, 0, 0)), (7, (.iconst 1, 1, 0, 0, 0, 0)), (8, (.iadd, 1, 0, 0, 0, 0)), (9, (.i2l, 1, 0, 0, 0, 0)), (10, (.lor, 1, 0, 0, 0, 0)), (11, (.lreturn, 1, 0, 0, 0, 0))])]
def tb_10 : List (Nat × List (Nat × rvE)) := [(99999, [(0, (.aload_n 0, 1, 0, 0, 0, 0)), (1, (.invokespecial 3, 3, 0, 0, 9, 281)), (4, (.aload_n 0, 1, 0, 0, 0, 0)), (5, (.aload_n 1, 1, 0, 0, 0, 0)), (6, (.putfield 9, 3, 1, 0, 1, 282)), (9, (.return_, 1, 0, 0, 0, 0))])]
def tb_11 : List (Nat × List (Nat × rvE)) := [(99999, [(0, (.aload_n 0, 1, 0, 0, 0, 0)), (1, (.invokespecial 3, 3, 0, 0, 9, 298)), (4, (.aload_n 0, 1, 0, 0, 0, 0)), (5, (.aload_n 1, 1, 0, 0, 0, 0)), (6, (.putfield 9, 3, 7, 0, 1, 299)), (9, (.return_, 1, 0, 0, 0, 0))])]
def tb_12 : List (Nat × List (Nat × rvE)) := [(23, [(0, (.aload_n 0, 1, 0, 0, 0, 0)), (1, (.invokespecial 3, 3, 0, 0, 9, 317)), (4, (.aload_n 0, 1, 0, 0, 0, 0)), (5, (.bipush 40, 2, 0, 0, 0, 0)), (7, (.newarray .int, 2, 0, 0, 0, 271)), (9, (.putfield 9, 3, 0, 0, 1, 318)), (12, (.aload_n 0, 1, 0, 0, 0, 0)), (13, (.bipush 40, 2, 0, 0, 0, 0)), (15, (.newarray .int, 2, 0, 0, 0, 271)), (17, (.putfield 15, 3, 0, 1, 1, 319)), (20, (.aload_n 0, 1, 0, 0, 0, 0)), (21, (.bipush 40, 2, 0, 0, 0, 0))]), (99999, [(23, (.newarray .int, 2, 0, 0, 0, 271)), (25, (.putfield 18, 3, 0, 2, 1, 320)), (28, (.return_, 1, 0, 0, 0, 0))])]
def tb_13 : List (Nat × List (Nat × rvE)) := [(20, [(0, (.aload_n 0, 1, 0, 0, 0, 0)), (1, (.invokespecial 3, 3, 0, 0, 9, 351)), (4, (.aload_n 0, 1, 0, 0, 0, 0)), (5, (.iconst (-1), 1, 0, 0, 0, 0)), (6, (.putfield 9, 3, 5, 0, 0, 352)), (9, (.aload_n 0, 1, 0, 0, 0, 0)), (10, (.iconst (-1), 1, 0, 0, 0, 0)), (11, (.putfield 15, 3, 5, 1, 0, 354)), (14, (.aload_n 0, 1, 0, 0, 0, 0)), (15, (.iconst (-1), 1, 0, 0, 0, 0)), (16, (.putfield 18, 3, 5, 2, 0, 356)), (19, (.aload_n 0, 1, 0, 0, 0, 0))]), (46, [(20, (.iconst (-1), 1, 0, 0, 0, 0)), (21, (.putfield 21, 3, 5, 3, 0, 358)), (24, (.aload_n 0, 1, 0, 0, 0, 0)), (25, (.sipush 1024, 3, 0, 0, 0, 0)), (28, (.newarray .int, 2, 0, 0, 0, 271)), (30, (.putfield 24, 3, 5, 4, 1, 360)), (33, (.aload_n 0, 1, 0, 0, 0, 0)), (34, (.sipush 1024, 3, 0, 0, 0, 0)), (37, (.newarray .int, 2, 0, 0, 0, 271)), (39, (.putfield 28, 3, 5, 5, 1, 361)), (42, (.aload_n 0, 1, 0, 0, 0, 0)), (43, (.sipush 128, 3, 0, 0, 0, 0))]), (99999, [(46, (.newarray .int, 2, 0, 0, 0, 271)), (48, (.putfield 31, 3, 5, 6, 1, 362)), (51, (.aload_n 0, 1, 0, 0, 0, 0)), (52, (.bipush 10, 2, 0, 0, 0, 0)), (54, (.newarray .int, 2, 0, 0, 0, 271)), (56, (.putfield 34, 3, 5, 7, 1, 363)), (59, (.return_, 1, 0, 0, 0, 0))])]
def tb_14 : List (Nat × List (Nat × rvE)) := [(23, [(0, (.aload_n 0, 1, 0, 0, 0, 0)), (1, (.invokespecial 3, 3, 0, 0, 9, 392)), (4, (.aload_n 0, 1, 0, 0, 0, 0)), (5, (.iconst (-1), 1, 0, 0, 0, 0)), (6, (.putfield 9, 3, 8, 0, 0, 393)), (9, (.aload_n 0, 1, 0, 0, 0, 0)), (10, (.iconst (-1), 1, 0, 0, 0, 0)), (11, (.putfield 15, 3, 8, 1, 0, 395)), (14, (.aload_n 0, 1, 0, 0, 0, 0)), (15, (.sipush 1024, 3, 0, 0, 0, 0)), (18, (.newarray .int, 2, 0, 0, 0, 271)), (20, (.putfield 18, 3, 8, 2, 1, 397))]), (99999, [(23, (.aload_n 0, 1, 0, 0, 0, 0)), (24, (.bipush 11, 2, 0, 0, 0, 0)), (26, (.newarray .int, 2, 0, 0, 0, 271)), (28, (.putfield 22, 3, 8, 3, 1, 398)), (31, (.return_, 1, 0, 0, 0, 0))])]
def tb_15 : List (Nat × List (Nat × rvE)) := [(99999, [(0, (.aload_n 0, 1, 0, 0, 0, 0)), (1, (.invokespecial 3, 3, 0, 0, 9, 416)), (4, (.aload_n 0, 1, 0, 0, 0, 0)), (5, (.bipush 64, 2, 0, 0, 0, 0)), (7, (.newarray .int, 2, 0, 0, 0, 271)), (9, (.putfield 9, 3, 4, 0, 1, 417)), (12, (.return_, 1, 0, 0, 0, 0))])]
def tb_16 : List (Nat × List (Nat × rvE)) := [(22, [(0, (.aload_n 0, 1, 0, 0, 0, 0)), (1, (.invokespecial 3, 3, 0, 0, 9, 431)), (4, (.aload_n 0, 1, 0, 0, 0, 0)), (5, (.iconst 4, 1, 0, 0, 0, 0)), (6, (.newarray .int, 2, 0, 0, 0, 271)), (8, (.putfield 9, 3, 10, 0, 1, 432)), (11, (.aload_n 0, 1, 0, 0, 0, 0)), (12, (.bipush 40, 2, 0, 0, 0, 0)), (14, (.newarray .long, 2, 3, 0, 0, 270)), (16, (.putfield 15, 3, 10, 1, 1, 439)), (19, (.aload_n 0, 1, 0, 0, 0, 0)), (20, (.bipush 10, 2, 0, 0, 0, 0))]), (44, [(22, (.newarray .int, 2, 0, 0, 0, 271)), (24, (.putfield 19, 3, 10, 2, 1, 440)), (27, (.aload_n 0, 1, 0, 0, 0, 0)), (28, (.bipush 30, 2, 0, 0, 0, 0)), (30, (.newarray .int, 2, 0, 0, 0, 271)), (32, (.putfield 22, 3, 10, 3, 1, 444)), (35, (.aload_n 0, 1, 0, 0, 0, 0)), (36, (.iconst 3, 1, 0, 0, 0, 0)), (37, (.newarray .int, 2, 0, 0, 0, 271)), (39, (.putfield 25, 3, 10, 4, 1, 446)), (42, (.aload_n 0, 1, 0, 0, 0, 0)), (43, (.iconst 3, 1, 0, 0, 0, 0))]), (99999, [(44, (.newarray .int, 2, 0, 0, 0, 271)), (46, (.putfield 28, 3, 10, 5, 1, 450)), (49, (.aload_n 0, 1, 0, 0, 0, 0)), (50, (.iconst 3, 1, 0, 0, 0, 0)), (51, (.newarray .int, 2, 0, 0, 0, 271)), (53, (.putfield 31, 3, 10, 6, 1, 452)), (56, (.return_, 1, 0, 0, 0, 0))])]
def tb_17 : List (Nat × List (Nat × rvE)) := [(22, [(0, (.aload_n 0, 1, 0, 0, 0, 0)), (1, (.invokespecial 3, 3, 0, 0, 9, 479)), (4, (.aload_n 0, 1, 0, 0, 0, 0)), (5, (.bipush 10, 2, 0, 0, 0, 0)), (7, (.newarray .int, 2, 0, 0, 0, 271)), (9, (.putfield 9, 3, 2, 6, 1, 501)), (12, (.aload_n 0, 1, 0, 0, 0, 0)), (13, (.iconst 3, 1, 0, 0, 0, 0)), (14, (.newarray .int, 2, 0, 0, 0, 271)), (16, (.putfield 15, 3, 2, 7, 1, 505)), (19, (.aload_n 0, 1, 0, 0, 0, 0)), (20, (.bipush 12, 2, 0, 0, 0, 0))]), (45, [(22, (.newarray .int, 2, 0, 0, 0, 271)), (24, (.putfield 18, 3, 2, 8, 1, 510)), (27, (.aload_n 0, 1, 0, 0, 0, 0)), (28, (.bipush 10, 2, 0, 0, 0, 0)), (30, (.newarray .int, 2, 0, 0, 0, 271)), (32, (.putfield 21, 3, 2, 9, 1, 513)), (35, (.aload_n 0, 1, 0, 0, 0, 0)), (36, (.bipush 36, 2, 0, 0, 0, 0)), (38, (.newarray .int, 2, 0, 0, 0, 271)), (40, (.putfield 24, 3, 2, 10, 1, 514)), (43, (.aload_n 0, 1, 0, 0, 0, 0)), (44, (.aload_n 1, 1, 0, 0, 0, 0))]), (99999, [(45, (.putfield 27, 3, 2, 0, 0, 480)), (48, (.return_, 1, 0, 0, 0, 0))])]
def tb_18 : List (Nat × List (Nat × rvE)) := [(22, [(0, (.aload_n 0, 1, 0, 0, 0, 0)), (1, (.invokespecial 3, 3, 0, 0, 9, 543)), (4, (.aload_n 0, 1, 0, 0, 0, 0)), (5, (.bipush 8, 2, 0, 0, 0, 0)), (7, (.anewarray 9, 3, 4, 0, 0, 544)), (10, (.putfield 11, 3, 3, 0, 1, 546)), (13, (.iconst 0, 1, 0, 0, 0, 0)), (14, (.istore_n 2, 1, 0, 0, 0, 0)), (15, (.iload_n 2, 1, 0, 0, 0, 0)), (16, (.bipush 8, 2, 0, 0, 0, 0)), (18, (.if_icmp .ge 23, 3, 0, 0, 0, 0)), (21, (.aload_n 0, 1, 0, 0, 0, 0))]), (99999, [(22, (.getfield 11, 3, 3, 0, 1, 546)), (25, (.iload_n 2, 1, 0, 0, 0, 0)), (26, (.new 9, 3, 2, 0, 0, 544)), (29, (.dup, 1, 0, 0, 0, 0)), (30, (.aload_n 1, 1, 0, 0, 0, 0)), (31, (.invokespecial 17, 3, 17, 1, 0, 545)), (34, (.aastore, 1, 0, 0, 0, 0)), (35, (.iinc 2 1, 3, 0, 0, 0, 0)), (38, (.goto (-23), 3, 0, 0, 0, 0)), (41, (.return_, 1, 0, 0, 0, 0))])]
def tb_19 : List (Nat × List (Nat × rvE)) := [(25, [(0, (.aload_n 0, 1, 0, 0, 0, 0)), (1, (.invokespecial 27, 3, 0, 0, 9, 1411)), (4, (.aload_n 0, 1, 0, 0, 0, 0)), (5, (.sipush 940, 3, 0, 0, 0, 0)), (8, (.newarray .byte, 2, 1, 0, 0, 269)), (10, (.putfield 14, 3, 12, 1, 1, 1436)), (13, (.aload_n 0, 1, 0, 0, 0, 0)), (14, (.sipush 296, 3, 0, 0, 0, 0)), (17, (.newarray .int, 2, 0, 0, 0, 271)), (19, (.putfield 33, 3, 12, 6, 1, 1441)), (22, (.aload_n 0, 1, 0, 0, 0, 0)), (23, (.bipush 91, 2, 0, 0, 0, 0))]), (50, [(25, (.newarray .int, 2, 0, 0, 0, 271)), (27, (.putfield 37, 3, 12, 7, 1, 1442)), (30, (.aload_n 0, 1, 0, 0, 0, 0)), (31, (.sipush 135, 3, 0, 0, 0, 0)), (34, (.newarray .int, 2, 0, 0, 0, 271)), (36, (.putfield 40, 3, 12, 8, 1, 1443)), (39, (.aload_n 0, 1, 0, 0, 0, 0)), (40, (.bipush 40, 2, 0, 0, 0, 0)), (42, (.newarray .long, 2, 3, 0, 0, 270)), (44, (.putfield 43, 3, 12, 9, 1, 1444)), (47, (.aload_n 0, 1, 0, 0, 0, 0)), (48, (.bipush 23, 2, 0, 0, 0, 0))]), (75, [(50, (.newarray .long, 2, 3, 0, 0, 270)), (52, (.putfield 47, 3, 12, 10, 1, 1445)), (55, (.aload_n 0, 1, 0, 0, 0, 0)), (56, (.bipush 12, 2, 0, 0, 0, 0)), (58, (.newarray .int, 2, 0, 0, 0, 271)), (60, (.putfield 50, 3, 12, 20, 1, 1455)), (63, (.aload_n 0, 1, 0, 0, 0, 0)), (64, (.sipush 192, 3, 0, 0, 0, 0)), (67, (.newarray .int, 2, 0, 0, 0, 271)), (69, (.putfield 53, 3, 12, 21, 1, 1456)), (72, (.aload_n 0, 1, 0, 0, 0, 0)), (73, (.bipush 24, 2, 0, 0, 0, 0))]), (102, [(75, (.newarray .int, 2, 0, 0, 0, 271)), (77, (.putfield 56, 3, 12, 22, 1, 1457)), (80, (.aload_n 0, 1, 0, 0, 0, 0)), (81, (.sipush 4096, 3, 0, 0, 0, 0)), (84, (.newarray .boolean, 2, 2, 0, 0, 292)), (86, (.putfield 59, 3, 12, 27, 1, 1462)), (89, (.aload_n 0, 1, 0, 0, 0, 0)), (90, (.sipush 1024, 3, 0, 0, 0, 0)), (93, (.newarray .int, 2, 0, 0, 0, 271)), (95, (.putfield 63, 3, 12, 32, 1, 1467)), (98, (.aload_n 0, 1, 0, 0, 0, 0)), (99, (.sipush 1024, 3, 0, 0, 0, 0))]), (127, [(102, (.newarray .int, 2, 0, 0, 0, 271)), (104, (.putfield 66, 3, 12, 33, 1, 1468)), (107, (.aload_n 0, 1, 0, 0, 0, 0)), (108, (.sipush 1024, 3, 0, 0, 0, 0)), (111, (.newarray .int, 2, 0, 0, 0, 271)), (113, (.putfield 69, 3, 12, 34, 1, 1469)), (116, (.aload_n 0, 1, 0, 0, 0, 0)), (117, (.bipush 11, 2, 0, 0, 0, 0)), (119, (.newarray .int, 2, 0, 0, 0, 271)), (121, (.putfield 72, 3, 12, 35, 1, 1470)), (124, (.aload_n 0, 1, 0, 0, 0, 0)), (125, (.bipush 56, 2, 0, 0, 0, 0))]), (150, [(127, (.newarray .byte, 2, 1, 0, 0, 269)), (129, (.putfield 75, 3, 12, 39, 1, 1474)), (132, (.aload_n 0, 1, 0, 0, 0, 0)), (133, (.iconst 4, 1, 0, 0, 0, 0)), (134, (.newarray .int, 2, 0, 0, 0, 271)), (136, (.putfield 78, 3, 12, 43, 1, 1478)), (139, (.aload_n 0, 1, 0, 0, 0, 0)), (140, (.bipush 45, 2, 0, 0, 0, 0)), (142, (.newarray .int, 2, 0, 0, 0, 271)), (144, (.putfield 81, 3, 12, 45, 1, 1480)), (147, (.aload_n 0, 1, 0, 0, 0, 0)), (148, (.bipush 45, 2, 0, 0, 0, 0))]), (174, [(150, (.newarray .boolean, 2, 2, 0, 0, 292)), (152, (.putfield 84, 3, 12, 51, 1, 1486)), (155, (.aload_n 0, 1, 0, 0, 0, 0)), (156, (.sipush 592, 3, 0, 0, 0, 0)), (159, (.newarray .int, 2, 0, 0, 0, 271)), (161, (.putfield 87, 3, 12, 52, 1, 1487)), (164, (.aload_n 0, 1, 0, 0, 0, 0)), (165, (.bipush 40, 2, 0, 0, 0, 0)), (167, (.newarray .long, 2, 3, 0, 0, 270)), (169, (.putfield 90, 3, 12, 53, 1, 1488)), (172, (.aload_n 0, 1, 0, 0, 0, 0)), (173, (.iconst 2, 1, 0, 0, 0, 0))]), (197, [(174, (.newarray .boolean, 2, 2, 0, 0, 292)), (176, (.putfield 93, 3, 12, 54, 1, 1489)), (179, (.aload_n 0, 1, 0, 0, 0, 0)), (180, (.getfield 47, 3, 12, 10, 1, 1445)), (183, (.iconst 0, 1, 0, 0, 0, 0)), (184, (.ldc2_w 96, 3, 0, 0, 0, 1412)), (187, (.lastore, 1, 0, 0, 0, 0)), (188, (.aload_n 0, 1, 0, 0, 0, 0)), (189, (.getfield 47, 3, 12, 10, 1, 1445)), (192, (.iconst 1, 1, 0, 0, 0, 0)), (193, (.ldc2_w 98, 3, 0, 0, 0, 1413)), (196, (.lastore, 1, 0, 0, 0, 0))]), (219, [(197, (.aload_n 0, 1, 0, 0, 0, 0)), (198, (.getfield 47, 3, 12, 10, 1, 1445)), (201, (.iconst 2, 1, 0, 0, 0, 0)), (202, (.ldc2_w 100, 3, 0, 0, 0, 1414)), (205, (.lastore, 1, 0, 0, 0, 0)), (206, (.aload_n 0, 1, 0, 0, 0, 0)), (207, (.getfield 47, 3, 12, 10, 1, 1445)), (210, (.iconst 3, 1, 0, 0, 0, 0)), (211, (.ldc2_w 102, 3, 0, 0, 0, 1415)), (214, (.lastore, 1, 0, 0, 0, 0)), (215, (.aload_n 0, 1, 0, 0, 0, 0)), (216, (.getfield 47, 3, 12, 10, 1, 1445))]), (242, [(219, (.iconst 4, 1, 0, 0, 0, 0)), (220, (.ldc2_w 104, 3, 0, 0, 0, 1416)), (223, (.lastore, 1, 0, 0, 0, 0)), (224, (.aload_n 0, 1, 0, 0, 0, 0)), (225, (.getfield 47, 3, 12, 10, 1, 1445)), (228, (.iconst 5, 1, 0, 0, 0, 0)), (229, (.ldc2_w 106, 3, 0, 0, 0, 1417)), (232, (.lastore, 1, 0, 0, 0, 0)), (233, (.aload_n 0, 1, 0, 0, 0, 0)), (234, (.getfield 47, 3, 12, 10, 1, 1445)), (237, (.bipush 6, 2, 0, 0, 0, 0)), (239, (.ldc2_w 108, 3, 0, 0, 0, 1418))]), (264, [(242, (.lastore, 1, 0, 0, 0, 0)), (243, (.aload_n 0, 1, 0, 0, 0, 0)), (244, (.getfield 47, 3, 12, 10, 1, 1445)), (247, (.bipush 7, 2, 0, 0, 0, 0)), (249, (.ldc2_w 110, 3, 0, 0, 0, 1419)), (252, (.lastore, 1, 0, 0, 0, 0)), (253, (.aload_n 0, 1, 0, 0, 0, 0)), (254, (.getfield 47, 3, 12, 10, 1, 1445)), (257, (.bipush 8, 2, 0, 0, 0, 0)), (259, (.ldc2_w 112, 3, 0, 0, 0, 1420)), (262, (.lastore, 1, 0, 0, 0, 0)), (263, (.aload_n 0, 1, 0, 0, 0, 0))]), (289, [(264, (.getfield 47, 3, 12, 10, 1, 1445)), (267, (.bipush 9, 2, 0, 0, 0, 0)), (269, (.ldc2_w 114, 3, 0, 0, 0, 1421)), (272, (.lastore, 1, 0, 0, 0, 0)), (273, (.aload_n 0, 1, 0, 0, 0, 0)), (274, (.getfield 47, 3, 12, 10, 1, 1445)), (277, (.bipush 10, 2, 0, 0, 0, 0)), (279, (.ldc2_w 116, 3, 0, 0, 0, 1422)), (282, (.lastore, 1, 0, 0, 0, 0)), (283, (.aload_n 0, 1, 0, 0, 0, 0)), (284, (.getfield 47, 3, 12, 10, 1, 1445)), (287, (.bipush 11, 2, 0, 0, 0, 0))]), (313, [(289, (.ldc2_w 118, 3, 0, 0, 0, 1423)), (292, (.lastore, 1, 0, 0, 0, 0)), (293, (.aload_n 0, 1, 0, 0, 0, 0)), (294, (.getfield 47, 3, 12, 10, 1, 1445)), (297, (.bipush 12, 2, 0, 0, 0, 0)), (299, (.ldc2_w 120, 3, 0, 0, 0, 1424)), (302, (.lastore, 1, 0, 0, 0, 0)), (303, (.aload_n 0, 1, 0, 0, 0, 0)), (304, (.getfield 47, 3, 12, 10, 1, 1445)), (307, (.bipush 13, 2, 0, 0, 0, 0)), (309, (.ldc2_w 122, 3, 0, 0, 0, 1425)), (312, (.lastore, 1, 0, 0, 0, 0))]), (337, [(313, (.aload_n 0, 1, 0, 0, 0, 0)), (314, (.getfield 47, 3, 12, 10, 1, 1445)), (317, (.bipush 14, 2, 0, 0, 0, 0)), (319, (.ldc2_w 124, 3, 0, 0, 0, 1426)), (322, (.lastore, 1, 0, 0, 0, 0)), (323, (.aload_n 0, 1, 0, 0, 0, 0)), (324, (.getfield 47, 3, 12, 10, 1, 1445)), (327, (.bipush 15, 2, 0, 0, 0, 0)), (329, (.ldc2_w 126, 3, 0, 0, 0, 1427)), (332, (.lastore, 1, 0, 0, 0, 0)), (333, (.aload_n 0, 1, 0, 0, 0, 0)), (334, (.getfield 47, 3, 12, 10, 1, 1445))]), (362, [(337, (.bipush 16, 2, 0, 0, 0, 0)), (339, (.ldc2_w 128, 3, 0, 0, 0, 1428)), (342, (.lastore, 1, 0, 0, 0, 0)), (343, (.aload_n 0, 1, 0, 0, 0, 0)), (344, (.getfield 47, 3, 12, 10, 1, 1445)), (347, (.bipush 17, 2, 0, 0, 0, 0)), (349, (.ldc2_w 130, 3, 0, 0, 0, 1429)), (352, (.lastore, 1, 0, 0, 0, 0)), (353, (.aload_n 0, 1, 0, 0, 0, 0)), (354, (.getfield 47, 3, 12, 10, 1, 1445)), (357, (.bipush 18, 2, 0, 0, 0, 0)), (359, (.ldc2_w 132, 3, 0, 0, 0, 1430))]), (384, [(362, (.lastore, 1, 0, 0, 0, 0)), (363, (.aload_n 0, 1, 0, 0, 0, 0)), (364, (.getfield 47, 3, 12, 10, 1, 1445)), (367, (.bipush 19, 2, 0, 0, 0, 0)), (369, (.ldc2_w 134, 3, 0, 0, 0, 1431)), (372, (.lastore, 1, 0, 0, 0, 0)), (373, (.aload_n 0, 1, 0, 0, 0, 0)), (374, (.getfield 47, 3, 12, 10, 1, 1445)), (377, (.bipush 20, 2, 0, 0, 0, 0)), (379, (.ldc2_w 136, 3, 0, 0, 0, 1432)), (382, (.lastore, 1, 0, 0, 0, 0)), (383, (.aload_n 0, 1, 0, 0, 0, 0))]), (99999, [(384, (.getfield 47, 3, 12, 10, 1, 1445)), (387, (.bipush 21, 2, 0, 0, 0, 0)), (389, (.ldc2_w 138, 3, 0, 0, 0, 1433)), (392, (.lastore, 1, 0, 0, 0, 0)), (393, (.aload_n 0, 1, 0, 0, 0, 0)), (394, (.getfield 47, 3, 12, 10, 1, 1445)), (397, (.bipush 22, 2, 0, 0, 0, 0)), (399, (.ldc2_w 140, 3, 0, 0, 0, 1434)), (402, (.lastore, 1, 0, 0, 0, 0)), (403, (.return_, 1, 0, 0, 0, 0))])]
def tb_20 : List (Nat × List (Nat × rvE)) := [(27, [(0, (.aload_n 0, 1, 0, 0, 0, 0)), (1, (.getfield 12, 3, 11, 0, 1, 553)), (4, (.getfield 96, 3, 9, 2, 0, 214)), (7, (.bipush 20, 2, 0, 0, 0, 0)), (9, (.iadd, 1, 0, 0, 0, 0)), (10, (.sipush 940, 3, 0, 0, 0, 0)), (13, (.if_icmp .le 5, 3, 0, 0, 0, 0)), (18, (.aload_n 0, 1, 0, 0, 0, 0)), (19, (.getfield 12, 3, 11, 0, 1, 553)), (22, (.iload_n 1, 1, 0, 0, 0, 0)), (23, (.invokevirtual 100, 3, 21, 1, 0, 603)), (26, (.aload_n 0, 1, 0, 0, 0, 0))]), (52, [(27, (.getfield 12, 3, 11, 0, 1, 553)), (30, (.iload_n 2, 1, 0, 0, 0, 0)), (31, (.invokevirtual 100, 3, 21, 1, 0, 603)), (34, (.aload_n 0, 1, 0, 0, 0, 0)), (35, (.getfield 12, 3, 11, 0, 1, 553)), (38, (.iload_n 3, 1, 0, 0, 0, 0)), (39, (.invokevirtual 100, 3, 21, 1, 0, 603)), (42, (.aload_n 0, 1, 0, 0, 0, 0)), (43, (.getfield 12, 3, 11, 0, 1, 553)), (46, (.iload 4, 2, 0, 0, 0, 0)), (48, (.invokevirtual 100, 3, 21, 1, 0, 603)), (51, (.aload_n 0, 1, 0, 0, 0, 0))]), (99999, [(52, (.getfield 12, 3, 11, 0, 1, 553)), (55, (.iload 5, 2, 0, 0, 0, 0)), (57, (.invokevirtual 100, 3, 21, 1, 0, 603)), (60, (.aload_n 0, 1, 0, 0, 0, 0)), (61, (.getfield 12, 3, 11, 0, 1, 553)), (64, (.getfield 96, 3, 9, 2, 0, 214)), (67, (.ireturn, 1, 0, 0, 0, 0))])]
def tb_21 : List (Nat × List (Nat × rvE)) := [(25, [(0, (.bipush 24, 2, 0, 0, 0, 0)), (2, (.istore_n 2, 1, 0, 0, 0, 0)), (3, (.iload_n 2, 1, 0, 0, 0, 0)), (4, (.ifCond .lt 42, 3, 0, 0, 0, 0)), (7, (.aload_n 0, 1, 0, 0, 0, 0)), (8, (.getfield 48, 3, 9, 2, 0, 215)), (11, (.sipush 940, 3, 0, 0, 0, 0)), (14, (.if_icmp .ge 32, 3, 0, 0, 0, 0)), (17, (.aload_n 0, 1, 0, 0, 0, 0)), (18, (.getfield 9, 3, 9, 0, 1, 211)), (21, (.aload_n 0, 1, 0, 0, 0, 0)), (22, (.getfield 48, 3, 9, 2, 0, 215))]), (43, [(25, (.iload_n 1, 1, 0, 0, 0, 0)), (26, (.iload_n 2, 1, 0, 0, 0, 0)), (27, (.iushr, 1, 0, 0, 0, 0)), (28, (.i2b, 1, 0, 0, 0, 0)), (29, (.bastore, 1, 0, 0, 0, 0)), (30, (.aload_n 0, 1, 0, 0, 0, 0)), (31, (.dup, 1, 0, 0, 0, 0)), (32, (.getfield 48, 3, 9, 2, 0, 215)), (35, (.iconst 1, 1, 0, 0, 0, 0)), (36, (.iadd, 1, 0, 0, 0, 0)), (37, (.putfield 48, 3, 9, 2, 0, 215)), (40, (.iinc 2 (-8), 3, 0, 0, 0, 0))]), (99999, [(43, (.goto (-40), 3, 0, 0, 0, 0)), (46, (.return_, 1, 0, 0, 0, 0))])]
def tb_22 : List (Nat × List (Nat × rvE)) := [(25, [(0, (.aload_n 0, 1, 0, 0, 0, 0)), (1, (.iconst 0, 1, 0, 0, 0, 0)), (2, (.putfield 1, 3, 12, 0, 0, 1435)), (5, (.aload_n 0, 1, 0, 0, 0, 0)), (6, (.getfield 7, 3, 12, 2, 0, 1437)), (9, (.bipush 20, 2, 0, 0, 0, 0)), (11, (.iadd, 1, 0, 0, 0, 0)), (12, (.sipush 940, 3, 0, 0, 0, 0)), (15, (.if_icmp .le 5, 3, 0, 0, 0, 0)), (20, (.aload_n 0, 1, 0, 0, 0, 0)), (21, (.iload_n 1, 1, 0, 0, 0, 0)), (22, (.invokevirtual 10, 3, 23, 1, 0, 1398))]), (47, [(25, (.aload_n 0, 1, 0, 0, 0, 0)), (26, (.iload_n 2, 1, 0, 0, 0, 0)), (27, (.invokevirtual 10, 3, 23, 1, 0, 1398)), (30, (.aload_n 0, 1, 0, 0, 0, 0)), (31, (.iload_n 3, 1, 0, 0, 0, 0)), (32, (.invokevirtual 10, 3, 23, 1, 0, 1398)), (35, (.aload_n 0, 1, 0, 0, 0, 0)), (36, (.iload 4, 2, 0, 0, 0, 0)), (38, (.invokevirtual 10, 3, 23, 1, 0, 1398)), (41, (.aload_n 0, 1, 0, 0, 0, 0)), (42, (.iload 5, 2, 0, 0, 0, 0)), (44, (.invokevirtual 10, 3, 23, 1, 0, 1398))]), (99999, [(47, (.aload_n 0, 1, 0, 0, 0, 0)), (48, (.getfield 7, 3, 12, 2, 0, 1437)), (51, (.ireturn, 1, 0, 0, 0, 0))])]
def tb_23 : List (Nat × List (Nat × rvE)) := [(19, [(0, (.bipush 24, 2, 0, 0, 0, 0)), (2, (.istore_n 2, 1, 0, 0, 0, 0)), (3, (.iload_n 2, 1, 0, 0, 0, 0)), (4, (.ifCond .lt 32, 3, 0, 0, 0, 0)), (7, (.aload_n 0, 1, 0, 0, 0, 0)), (8, (.getfield 14, 3, 12, 1, 1, 1436)), (11, (.aload_n 0, 1, 0, 0, 0, 0)), (12, (.getfield 7, 3, 12, 2, 0, 1437)), (15, (.iload_n 1, 1, 0, 0, 0, 0)), (16, (.iload_n 2, 1, 0, 0, 0, 0)), (17, (.ishr, 1, 0, 0, 0, 0)), (18, (.i2b, 1, 0, 0, 0, 0))]), (99999, [(19, (.bastore, 1, 0, 0, 0, 0)), (20, (.aload_n 0, 1, 0, 0, 0, 0)), (21, (.dup, 1, 0, 0, 0, 0)), (22, (.getfield 7, 3, 12, 2, 0, 1437)), (25, (.iconst 1, 1, 0, 0, 0, 0)), (26, (.iadd, 1, 0, 0, 0, 0)), (27, (.putfield 7, 3, 12, 2, 0, 1437)), (30, (.iinc 2 (-8), 3, 0, 0, 0, 0)), (33, (.goto (-30), 3, 0, 0, 0, 0)), (36, (.return_, 1, 0, 0, 0, 0))])]
def tb_24 : List (Nat × List (Nat × rvE)) := [(22, [(0, (.iload_n 1, 1, 0, 0, 0, 0)), (1, (.ifCond .lt 14, 3, 0, 0, 0, 0)), (4, (.iload_n 1, 1, 0, 0, 0, 0)), (5, (.aload_n 0, 1, 0, 0, 0, 0)), (6, (.getfield 12, 3, 11, 0, 1, 553)), (9, (.getfield 96, 3, 9, 2, 0, 214)), (12, (.if_icmp .le 5, 3, 0, 0, 0, 0)), (15, (.iconst 0, 1, 0, 0, 0, 0)), (16, (.ireturn, 1, 0, 0, 0, 0)), (17, (.aload_n 0, 1, 0, 0, 0, 0)), (18, (.getfield 12, 3, 11, 0, 1, 553)), (21, (.iload_n 1, 1, 0, 0, 0, 0))]), (99999, [(22, (.putfield 96, 3, 9, 2, 0, 214)), (25, (.iconst 1, 1, 0, 0, 0, 0)), (26, (.ireturn, 1, 0, 0, 0, 0))])]
def tb_25 : List (Nat × List (Nat × rvE)) := [(20, [(0, (.aload_n 0, 1, 0, 0, 0, 0)), (1, (.iconst 0, 1, 0, 0, 0, 0)), (2, (.putfield 1, 3, 12, 0, 0, 1435)), (5, (.iload_n 1, 1, 0, 0, 0, 0)), (6, (.ifCond .lt 11, 3, 0, 0, 0, 0)), (9, (.iload_n 1, 1, 0, 0, 0, 0)), (10, (.aload_n 0, 1, 0, 0, 0, 0)), (11, (.getfield 7, 3, 12, 2, 0, 1437)), (14, (.if_icmp .le 5, 3, 0, 0, 0, 0)), (17, (.iconst 0, 1, 0, 0, 0, 0)), (18, (.ireturn, 1, 0, 0, 0, 0)), (19, (.aload_n 0, 1, 0, 0, 0, 0))]), (99999, [(20, (.iload_n 1, 1, 0, 0, 0, 0)), (21, (.putfield 7, 3, 12, 2, 0, 1437)), (24, (.iconst 1, 1, 0, 0, 0, 0)), (25, (.ireturn, 1, 0, 0, 0, 0))])]
def tb_26 : List (Nat × List (Nat × rvE)) := [(24, [(0, (.aload_n 0, 1, 0, 0, 0, 0)), (1, (.getfield 37, 3, 11, 7, 1, 560)), (4, (.aload_n 0, 1, 0, 0, 0, 0)), (5, (.getfield 86, 3, 11, 2, 1, 555)), (8, (.invokevirtual 104, 3, 27, 1, 0, 615)), (11, (.istore_n 1, 1, 0, 0, 0, 0)), (12, (.aload_n 0, 1, 0, 0, 0, 0)), (13, (.aload_n 0, 1, 0, 0, 0, 0)), (14, (.getfield 12, 3, 11, 0, 1, 553)), (17, (.getfield 108, 3, 9, 13, 0, 235)), (20, (.putfield 111, 3, 11, 14, 0, 567)), (23, (.aload_n 0, 1, 0, 0, 0, 0))]), (60, [(24, (.getfield 12, 3, 11, 0, 1, 553)), (27, (.iconst 0, 1, 0, 0, 0, 0)), (28, (.putfield 96, 3, 9, 2, 0, 214)), (31, (.aload_n 0, 1, 0, 0, 0, 0)), (32, (.getfield 111, 3, 11, 14, 0, 567)), (35, (.ifCond .eq 13, 3, 0, 0, 0, 0)), (48, (.aload_n 0, 1, 0, 0, 0, 0)), (49, (.getfield 82, 3, 11, 1, 1, 554)), (52, (.aload_n 0, 1, 0, 0, 0, 0)), (53, (.getfield 86, 3, 11, 2, 1, 555)), (56, (.invokevirtual 117, 3, 38, 1, 0, 773)), (59, (.aload_n 0, 1, 0, 0, 0, 0))]), (99999, [(60, (.getfield 92, 3, 11, 3, 1, 556)), (63, (.invokevirtual 121, 3, 39, 0, 0, 780)), (66, (.aload_n 0, 1, 0, 0, 0, 0)), (67, (.aconst_null, 1, 0, 0, 0, 0)), (68, (.putfield 124, 3, 11, 13, 0, 566)), (71, (.iload_n 1, 1, 0, 0, 0, 0)), (72, (.ireturn, 1, 0, 0, 0, 0))])]
def tb_27 : List (Nat × List (Nat × rvE)) := [(24, [(0, (.aload_n 0, 1, 0, 0, 0, 0)), (1, (.new 15, 3, 10, 0, 0, 619)), (4, (.dup, 1, 0, 0, 0, 0)), (5, (.invokespecial 17, 3, 16, 0, 1, 620)), (8, (.putfield 18, 3, 1, 1, 0, 283)), (11, (.aload_n 0, 1, 0, 0, 0, 0)), (12, (.aload_n 1, 1, 0, 0, 0, 0)), (13, (.putfield 22, 3, 1, 2, 0, 284)), (16, (.aload_n 0, 1, 0, 0, 0, 0)), (17, (.getfield 22, 3, 1, 2, 0, 284)), (20, (.aload_n 0, 1, 0, 0, 0, 0)), (21, (.getfield 18, 3, 1, 1, 0, 283))]), (50, [(24, (.invokevirtual 26, 3, 28, 1, 0, 621)), (27, (.aload_n 0, 1, 0, 0, 0, 0)), (28, (.getfield 9, 3, 1, 0, 1, 282)), (31, (.sipush 900, 3, 0, 0, 0, 0)), (34, (.invokevirtual 32, 3, 30, 1, 0, 628)), (37, (.iconst 0, 1, 0, 0, 0, 0)), (38, (.istore_n 2, 1, 0, 0, 0, 0)), (39, (.iload_n 2, 1, 0, 0, 0, 0)), (40, (.sipush 940, 3, 0, 0, 0, 0)), (43, (.if_icmp .ge 38, 3, 0, 0, 0, 0)), (46, (.aload_n 0, 1, 0, 0, 0, 0)), (47, (.getfield 9, 3, 1, 0, 1, 282))]), (99999, [(50, (.getfield 38, 3, 9, 10, 0, 226)), (53, (.iconst 1, 1, 0, 0, 0, 0)), (54, (.if_icmp .ne 12, 3, 0, 0, 0, 0)), (57, (.aload_n 0, 1, 0, 0, 0, 0)), (58, (.getfield 22, 3, 1, 2, 0, 284)), (61, (.invokevirtual 42, 3, 33, 0, 0, 660)), (64, (.iload_n 2, 1, 0, 0, 0, 0)), (65, (.ireturn, 1, 0, 0, 0, 0))])]
def tb_28 : List (Nat × List (Nat × rvE)) := [(20, [(0, (.aload_n 0, 1, 0, 0, 0, 0)), (1, (.aload_n 1, 1, 0, 0, 0, 0)), (2, (.putfield 27, 3, 2, 0, 0, 480)), (5, (.aload_n 0, 1, 0, 0, 0, 0)), (6, (.iconst 0, 1, 0, 0, 0, 0)), (7, (.putfield 31, 3, 2, 1, 0, 486)), (10, (.aload_n 0, 1, 0, 0, 0, 0)), (11, (.iconst 0, 1, 0, 0, 0, 0)), (12, (.putfield 35, 3, 2, 2, 0, 493)), (15, (.aload_n 0, 1, 0, 0, 0, 0)), (16, (.iconst 0, 1, 0, 0, 0, 0)), (17, (.putfield 38, 3, 2, 3, 0, 496))]), (99999, [(20, (.aload_n 0, 1, 0, 0, 0, 0)), (21, (.iconst 0, 1, 0, 0, 0, 0)), (22, (.putfield 41, 3, 2, 4, 0, 498)), (25, (.aload_n 0, 1, 0, 0, 0, 0)), (26, (.getfield 9, 3, 2, 6, 1, 501)), (29, (.iconst 0, 1, 0, 0, 0, 0)), (30, (.invokestatic 44, 3, 29, 2, 0, 625)), (33, (.aload_n 0, 1, 0, 0, 0, 0)), (34, (.getfield 15, 3, 2, 7, 1, 505)), (37, (.iconst 0, 1, 0, 0, 0, 0)), (38, (.invokestatic 44, 3, 29, 2, 0, 625)), (41, (.return_, 1, 0, 0, 0, 0))])]
def tb_29 : List (Nat × List (Nat × rvE)) := [(14, [(0, (.iconst 0, 1, 0, 0, 0, 0)), (1, (.istore_n 2, 1, 0, 0, 0, 0)), (2, (.aload_n 0, 1, 0, 0, 0, 0)), (3, (.arraylength, 1, 0, 0, 0, 0)), (4, (.istore_n 3, 1, 0, 0, 0, 0)), (5, (.iload_n 2, 1, 0, 0, 0, 0)), (6, (.iload_n 3, 1, 0, 0, 0, 0)), (7, (.if_icmp .ge 13, 3, 0, 0, 0, 0)), (10, (.aload_n 0, 1, 0, 0, 0, 0)), (11, (.iload_n 2, 1, 0, 0, 0, 0)), (12, (.iload_n 1, 1, 0, 0, 0, 0)), (13, (.iastore, 1, 0, 0, 0, 0))]), (99999, [(14, (.iinc 2 1, 3, 0, 0, 0, 0)), (17, (.goto (-12), 3, 0, 0, 0, 0)), (20, (.return_, 1, 0, 0, 0, 0))])]
def tb_30 : List (Nat × List (Nat × rvE)) := [(20, [(0, (.aload_n 0, 1, 0, 0, 0, 0)), (1, (.iconst 0, 1, 0, 0, 0, 0)), (2, (.putfield 52, 3, 9, 8, 0, 222)), (5, (.iconst 1, 1, 0, 0, 0, 0)), (6, (.istore_n 2, 1, 0, 0, 0, 0)), (7, (.aload_n 0, 1, 0, 0, 0, 0)), (8, (.iconst 0, 1, 0, 0, 0, 0)), (9, (.putfield 55, 3, 9, 7, 0, 221)), (12, (.iload_n 2, 1, 0, 0, 0, 0)), (13, (.ifCond .eq 72, 3, 0, 0, 0, 0)), (16, (.aload_n 0, 1, 0, 0, 0, 0)), (17, (.getfield 55, 3, 9, 7, 0, 221))]), (42, [(20, (.sipush 941, 3, 0, 0, 0, 0)), (23, (.if_icmp .ge 62, 3, 0, 0, 0, 0)), (26, (.aload_n 0, 1, 0, 0, 0, 0)), (27, (.getfield 19, 3, 9, 3, 1, 217)), (30, (.aload_n 0, 1, 0, 0, 0, 0)), (31, (.getfield 55, 3, 9, 7, 0, 221)), (34, (.aload_n 0, 1, 0, 0, 0, 0)), (35, (.iload_n 1, 1, 0, 0, 0, 0)), (36, (.invokevirtual 58, 3, 31, 1, 0, 632)), (39, (.i2b, 1, 0, 0, 0, 0)), (40, (.bastore, 1, 0, 0, 0, 0)), (41, (.aload_n 0, 1, 0, 0, 0, 0))]), (78, [(42, (.getfield 19, 3, 9, 3, 1, 217)), (45, (.aload_n 0, 1, 0, 0, 0, 0)), (46, (.getfield 55, 3, 9, 7, 0, 221)), (49, (.baload, 1, 0, 0, 0, 0)), (50, (.iconst 1, 1, 0, 0, 0, 0)), (51, (.if_icmp .eq 19, 3, 0, 0, 0, 0)), (70, (.iconst 0, 1, 0, 0, 0, 0)), (71, (.istore_n 2, 1, 0, 0, 0, 0)), (72, (.aload_n 0, 1, 0, 0, 0, 0)), (73, (.dup, 1, 0, 0, 0, 0)), (74, (.getfield 55, 3, 9, 7, 0, 221)), (77, (.iconst 1, 1, 0, 0, 0, 0))]), (100, [(78, (.iadd, 1, 0, 0, 0, 0)), (79, (.putfield 55, 3, 9, 7, 0, 221)), (82, (.goto (-70), 3, 0, 0, 0, 0)), (85, (.aload_n 0, 1, 0, 0, 0, 0)), (86, (.iconst 0, 1, 0, 0, 0, 0)), (87, (.putfield 62, 3, 9, 13, 0, 234)), (90, (.aload_n 0, 1, 0, 0, 0, 0)), (91, (.iconst 0, 1, 0, 0, 0, 0)), (92, (.putfield 65, 3, 9, 14, 0, 236)), (95, (.aload_n 0, 1, 0, 0, 0, 0)), (96, (.iconst (-1), 1, 0, 0, 0, 0)), (97, (.putfield 68, 3, 9, 9, 0, 223))]), (99999, [(100, (.aload_n 0, 1, 0, 0, 0, 0)), (101, (.invokevirtual 71, 3, 32, 0, 0, 656)), (104, (.return_, 1, 0, 0, 0, 0))])]
def tb_31 : List (Nat × List (Nat × rvE)) := [(50, [(0, (.aload_n 0, 1, 0, 0, 0, 0)), (1, (.getfield 52, 3, 9, 8, 0, 222)), (4, (.aload_n 0, 1, 0, 0, 0, 0)), (5, (.getfield 48, 3, 9, 2, 0, 215)), (8, (.if_icmp .ge 31, 3, 0, 0, 0, 0)), (39, (.aload_n 0, 1, 0, 0, 0, 0)), (40, (.getfield 26, 3, 9, 5, 1, 219)), (43, (.aload_n 0, 1, 0, 0, 0, 0)), (44, (.getfield 55, 3, 9, 7, 0, 221)), (47, (.iconst 0, 1, 0, 0, 0, 0)), (48, (.iastore, 1, 0, 0, 0, 0)), (49, (.aload_n 0, 1, 0, 0, 0, 0))]), (72, [(50, (.getfield 29, 3, 9, 6, 1, 220)), (53, (.aload_n 0, 1, 0, 0, 0, 0)), (54, (.getfield 55, 3, 9, 7, 0, 221)), (57, (.lconst 0, 1, 0, 0, 0, 0)), (58, (.lastore, 1, 0, 0, 0, 0)), (59, (.aload_n 0, 1, 0, 0, 0, 0)), (60, (.getfield 22, 3, 9, 4, 1, 218)), (63, (.aload_n 0, 1, 0, 0, 0, 0)), (64, (.getfield 55, 3, 9, 7, 0, 221)), (67, (.aload_n 0, 1, 0, 0, 0, 0)), (68, (.getfield 52, 3, 9, 8, 0, 222)), (71, (.iastore, 1, 0, 0, 0, 0))]), (99999, [(72, (.aload_n 0, 1, 0, 0, 0, 0)), (73, (.getfield 48, 3, 9, 2, 0, 215)), (76, (.iload_n 1, 1, 0, 0, 0, 0)), (77, (.if_icmp .le 23, 3, 0, 0, 0, 0)), (100, (.aload_n 0, 1, 0, 0, 0, 0)), (101, (.getfield 52, 3, 9, 8, 0, 222)), (104, (.aload_n 0, 1, 0, 0, 0, 0)), (105, (.getfield 48, 3, 9, 2, 0, 215)), (108, (.if_icmp .lt 5, 3, 0, 0, 0, 0)), (111, (.iconst 1, 1, 0, 0, 0, 0)), (112, (.ireturn, 1, 0, 0, 0, 0))])]
def tb_32 : List (Nat × List (Nat × rvE)) := [(20, [(0, (.aload_n 0, 1, 0, 0, 0, 0)), (1, (.getfield 68, 3, 9, 9, 0, 223)), (4, (.iconst 1, 1, 0, 0, 0, 0)), (5, (.iadd, 1, 0, 0, 0, 0)), (6, (.aload_n 0, 1, 0, 0, 0, 0)), (7, (.getfield 55, 3, 9, 7, 0, 221)), (10, (.if_icmp .ge 52, 3, 0, 0, 0, 0)), (13, (.aload_n 0, 1, 0, 0, 0, 0)), (14, (.dup, 1, 0, 0, 0, 0)), (15, (.getfield 68, 3, 9, 9, 0, 223)), (18, (.iconst 1, 1, 0, 0, 0, 0)), (19, (.iadd, 1, 0, 0, 0, 0))]), (42, [(20, (.putfield 68, 3, 9, 9, 0, 223)), (23, (.aload_n 0, 1, 0, 0, 0, 0)), (24, (.aload_n 0, 1, 0, 0, 0, 0)), (25, (.getfield 19, 3, 9, 3, 1, 217)), (28, (.aload_n 0, 1, 0, 0, 0, 0)), (29, (.getfield 68, 3, 9, 9, 0, 223)), (32, (.baload, 1, 0, 0, 0, 0)), (33, (.putfield 94, 3, 9, 10, 0, 227)), (36, (.aload_n 0, 1, 0, 0, 0, 0)), (37, (.aload_n 0, 1, 0, 0, 0, 0)), (38, (.getfield 26, 3, 9, 5, 1, 219)), (41, (.aload_n 0, 1, 0, 0, 0, 0))]), (99999, [(42, (.getfield 68, 3, 9, 9, 0, 223)), (45, (.iaload, 1, 0, 0, 0, 0)), (46, (.putfield 97, 3, 9, 11, 0, 231)), (49, (.aload_n 0, 1, 0, 0, 0, 0)), (50, (.aload_n 0, 1, 0, 0, 0, 0)), (51, (.getfield 29, 3, 9, 6, 1, 220)), (54, (.aload_n 0, 1, 0, 0, 0, 0)), (55, (.getfield 68, 3, 9, 9, 0, 223)), (58, (.laload, 1, 0, 0, 0, 0)), (59, (.putfield 100, 3, 9, 12, 0, 233)), (62, (.return_, 1, 0, 0, 0, 0))])]
def tb_33 : List (Nat × List (Nat × rvE)) := [(22, [(0, (.aload_n 0, 1, 0, 0, 0, 0)), (1, (.getfield 27, 3, 2, 0, 0, 480)), (4, (.invokevirtual 56, 3, 34, 0, 0, 664)), (7, (.aload_n 0, 1, 0, 0, 0, 0)), (8, (.getfield 31, 3, 2, 1, 0, 486)), (11, (.iconst (-1), 1, 0, 0, 0, 0)), (12, (.ixor, 1, 0, 0, 0, 0)), (13, (.iand, 1, 0, 0, 0, 0)), (14, (.istore_n 1, 1, 0, 0, 0, 0)), (15, (.aload_n 0, 1, 0, 0, 0, 0)), (16, (.getfield 27, 3, 2, 0, 0, 480)), (19, (.getfield 62, 3, 10, 0, 1, 436))]), (40, [(22, (.iconst 0, 1, 0, 0, 0, 0)), (23, (.iaload, 1, 0, 0, 0, 0)), (24, (.istore_n 2, 1, 0, 0, 0, 0)), (25, (.aload_n 0, 1, 0, 0, 0, 0)), (26, (.getfield 18, 3, 2, 8, 1, 510)), (29, (.iconst 0, 1, 0, 0, 0, 0)), (30, (.invokestatic 44, 3, 29, 2, 0, 625)), (33, (.aload_n 0, 1, 0, 0, 0, 0)), (34, (.getfield 18, 3, 2, 8, 1, 510)), (37, (.iconst 0, 1, 0, 0, 0, 0)), (38, (.iload_n 1, 1, 0, 0, 0, 0)), (39, (.iastore, 1, 0, 0, 0, 0))]), (58, [(40, (.aload_n 0, 1, 0, 0, 0, 0)), (41, (.getfield 18, 3, 2, 8, 1, 510)), (44, (.iconst 1, 1, 0, 0, 0, 0)), (45, (.iload_n 1, 1, 0, 0, 0, 0)), (46, (.aload_n 0, 1, 0, 0, 0, 0)), (47, (.getfield 27, 3, 2, 0, 0, 480)), (50, (.getfield 65, 3, 10, 7, 0, 454)), (53, (.iconst (-1), 1, 0, 0, 0, 0)), (54, (.ixor, 1, 0, 0, 0, 0)), (55, (.iand, 1, 0, 0, 0, 0)), (56, (.iastore, 1, 0, 0, 0, 0)), (57, (.aload_n 0, 1, 0, 0, 0, 0))]), (78, [(58, (.getfield 18, 3, 2, 8, 1, 510)), (61, (.iconst 2, 1, 0, 0, 0, 0)), (62, (.iload_n 1, 1, 0, 0, 0, 0)), (63, (.aload_n 0, 1, 0, 0, 0, 0)), (64, (.getfield 27, 3, 2, 0, 0, 480)), (67, (.getfield 65, 3, 10, 7, 0, 454)), (70, (.iand, 1, 0, 0, 0, 0)), (71, (.iastore, 1, 0, 0, 0, 0)), (72, (.aload_n 0, 1, 0, 0, 0, 0)), (73, (.getfield 18, 3, 2, 8, 1, 510)), (76, (.iconst 3, 1, 0, 0, 0, 0)), (77, (.iload_n 1, 1, 0, 0, 0, 0))]), (96, [(78, (.sipush 341, 3, 0, 0, 0, 0)), (81, (.iand, 1, 0, 0, 0, 0)), (82, (.iastore, 1, 0, 0, 0, 0)), (83, (.aload_n 0, 1, 0, 0, 0, 0)), (84, (.getfield 18, 3, 2, 8, 1, 510)), (87, (.iconst 4, 1, 0, 0, 0, 0)), (88, (.iload_n 1, 1, 0, 0, 0, 0)), (89, (.sipush 682, 3, 0, 0, 0, 0)), (92, (.iand, 1, 0, 0, 0, 0)), (93, (.iastore, 1, 0, 0, 0, 0)), (94, (.iconst 0, 1, 0, 0, 0, 0)), (95, (.istore_n 3, 1, 0, 0, 0, 0))]), (149, [(96, (.iload_n 3, 1, 0, 0, 0, 0)), (97, (.aload_n 0, 1, 0, 0, 0, 0)), (98, (.getfield 27, 3, 2, 0, 0, 480)), (101, (.getfield 62, 3, 10, 0, 1, 436)), (104, (.iconst 2, 1, 0, 0, 0, 0)), (105, (.iaload, 1, 0, 0, 0, 0)), (106, (.if_icmp .ge 36, 3, 0, 0, 0, 0)), (142, (.iconst 0, 1, 0, 0, 0, 0)), (143, (.istore_n 3, 1, 0, 0, 0, 0)), (144, (.iload_n 3, 1, 0, 0, 0, 0)), (145, (.aload_n 0, 1, 0, 0, 0, 0)), (146, (.getfield 27, 3, 2, 0, 0, 480))]), (99999, [(149, (.getfield 62, 3, 10, 0, 1, 436)), (152, (.iconst 1, 1, 0, 0, 0, 0)), (153, (.iaload, 1, 0, 0, 0, 0)), (154, (.if_icmp .ge 30, 3, 0, 0, 0, 0)), (184, (.aload_n 0, 1, 0, 0, 0, 0)), (185, (.invokevirtual 75, 3, 35, 0, 0, 671)), (188, (.aload_n 0, 1, 0, 0, 0, 0)), (189, (.invokevirtual 78, 3, 37, 0, 0, 679)), (192, (.return_, 1, 0, 0, 0, 0))])]
def tb_34 : List (Nat × List (Nat × rvE)) := [(99999, [(0, (.iconst 1, 1, 0, 0, 0, 0)), (1, (.aload_n 0, 1, 0, 0, 0, 0)), (2, (.getfield 9, 3, 10, 0, 1, 432)), (5, (.iconst 2, 1, 0, 0, 0, 0)), (6, (.iaload, 1, 0, 0, 0, 0)), (7, (.ishl, 1, 0, 0, 0, 0)), (8, (.iconst 1, 1, 0, 0, 0, 0)), (9, (.isub, 1, 0, 0, 0, 0)), (10, (.ireturn, 1, 0, 0, 0, 0))])]
def tb_35 : List (Nat × List (Nat × rvE)) := [(22, [(0, (.aload_n 0, 1, 0, 0, 0, 0)), (1, (.getfield 21, 3, 2, 9, 1, 513)), (4, (.iconst 0, 1, 0, 0, 0, 0)), (5, (.invokestatic 44, 3, 29, 2, 0, 625)), (8, (.iconst 0, 1, 0, 0, 0, 0)), (9, (.istore_n 1, 1, 0, 0, 0, 0)), (10, (.iload_n 1, 1, 0, 0, 0, 0)), (11, (.aload_n 0, 1, 0, 0, 0, 0)), (12, (.getfield 27, 3, 2, 0, 0, 480)), (15, (.invokevirtual 81, 3, 36, 0, 0, 675)), (18, (.if_icmp .ge 55, 3, 0, 0, 0, 0)), (21, (.iconst 0, 1, 0, 0, 0, 0))]), (99999, [(22, (.istore_n 2, 1, 0, 0, 0, 0)), (23, (.iload_n 2, 1, 0, 0, 0, 0)), (24, (.aload_n 0, 1, 0, 0, 0, 0)), (25, (.getfield 27, 3, 2, 0, 0, 480)), (28, (.getfield 62, 3, 10, 0, 1, 436)), (31, (.iconst 2, 1, 0, 0, 0, 0)), (32, (.iaload, 1, 0, 0, 0, 0)), (33, (.if_icmp .ge 34, 3, 0, 0, 0, 0)), (67, (.iinc 1 1, 3, 0, 0, 0, 0)), (70, (.goto (-60), 3, 0, 0, 0, 0)), (73, (.return_, 1, 0, 0, 0, 0))])]
def tb_36 : List (Nat × List (Nat × rvE)) := [(99999, [(0, (.iconst 5, 1, 0, 0, 0, 0)), (1, (.aload_n 0, 1, 0, 0, 0, 0)), (2, (.getfield 9, 3, 10, 0, 1, 432)), (5, (.iconst 0, 1, 0, 0, 0, 0)), (6, (.iaload, 1, 0, 0, 0, 0)), (7, (.iadd, 1, 0, 0, 0, 0)), (8, (.aload_n 0, 1, 0, 0, 0, 0)), (9, (.getfield 9, 3, 10, 0, 1, 432)), (12, (.iconst 1, 1, 0, 0, 0, 0)), (13, (.iaload, 1, 0, 0, 0, 0)), (14, (.iadd, 1, 0, 0, 0, 0)), (15, (.ireturn, 1, 0, 0, 0, 0))])]
def tb_37 : List (Nat × List (Nat × rvE)) := [(99999, [(0, (.iconst 0, 1, 0, 0, 0, 0)), (1, (.istore_n 1, 1, 0, 0, 0, 0)), (2, (.iload_n 1, 1, 0, 0, 0, 0)), (3, (.aload_n 0, 1, 0, 0, 0, 0)), (4, (.getfield 27, 3, 2, 0, 0, 480)), (7, (.getfield 62, 3, 10, 0, 1, 436)), (10, (.iconst 3, 1, 0, 0, 0, 0)), (11, (.iaload, 1, 0, 0, 0, 0)), (12, (.if_icmp .ge 56, 3, 0, 0, 0, 0)), (68, (.return_, 1, 0, 0, 0, 0))])]
def tb_38 : List (Nat × List (Nat × rvE)) := [(24, [(0, (.aload_n 0, 1, 0, 0, 0, 0)), (1, (.aload_n 1, 1, 0, 0, 0, 0)), (2, (.getfield 27, 3, 2, 0, 0, 480)), (5, (.putfield 27, 3, 2, 0, 0, 480)), (8, (.aload_n 0, 1, 0, 0, 0, 0)), (9, (.aload_n 1, 1, 0, 0, 0, 0)), (10, (.getfield 31, 3, 2, 1, 0, 486)), (13, (.putfield 31, 3, 2, 1, 0, 486)), (16, (.aload_n 0, 1, 0, 0, 0, 0)), (17, (.aload_n 1, 1, 0, 0, 0, 0)), (18, (.getfield 35, 3, 2, 2, 0, 493)), (21, (.putfield 35, 3, 2, 2, 0, 493))]), (46, [(24, (.aload_n 0, 1, 0, 0, 0, 0)), (25, (.aload_n 1, 1, 0, 0, 0, 0)), (26, (.getfield 38, 3, 2, 3, 0, 496)), (29, (.putfield 38, 3, 2, 3, 0, 496)), (32, (.aload_n 0, 1, 0, 0, 0, 0)), (33, (.aload_n 1, 1, 0, 0, 0, 0)), (34, (.getfield 41, 3, 2, 4, 0, 498)), (37, (.putfield 41, 3, 2, 4, 0, 498)), (40, (.aload_n 1, 1, 0, 0, 0, 0)), (41, (.getfield 9, 3, 2, 6, 1, 501)), (44, (.iconst 0, 1, 0, 0, 0, 0)), (45, (.aload_n 0, 1, 0, 0, 0, 0))]), (69, [(46, (.getfield 9, 3, 2, 6, 1, 501)), (49, (.iconst 0, 1, 0, 0, 0, 0)), (50, (.bipush 10, 2, 0, 0, 0, 0)), (52, (.invokestatic 50, 3, 0, 5, 8, 777)), (55, (.aload_n 1, 1, 0, 0, 0, 0)), (56, (.getfield 15, 3, 2, 7, 1, 505)), (59, (.iconst 0, 1, 0, 0, 0, 0)), (60, (.aload_n 0, 1, 0, 0, 0, 0)), (61, (.getfield 15, 3, 2, 7, 1, 505)), (64, (.iconst 0, 1, 0, 0, 0, 0)), (65, (.iconst 3, 1, 0, 0, 0, 0)), (66, (.invokestatic 50, 3, 0, 5, 8, 777))]), (90, [(69, (.aload_n 1, 1, 0, 0, 0, 0)), (70, (.getfield 18, 3, 2, 8, 1, 510)), (73, (.iconst 0, 1, 0, 0, 0, 0)), (74, (.aload_n 0, 1, 0, 0, 0, 0)), (75, (.getfield 18, 3, 2, 8, 1, 510)), (78, (.iconst 0, 1, 0, 0, 0, 0)), (79, (.bipush 12, 2, 0, 0, 0, 0)), (81, (.invokestatic 50, 3, 0, 5, 8, 777)), (84, (.aload_n 1, 1, 0, 0, 0, 0)), (85, (.getfield 21, 3, 2, 9, 1, 513)), (88, (.iconst 0, 1, 0, 0, 0, 0)), (89, (.aload_n 0, 1, 0, 0, 0, 0))]), (114, [(90, (.getfield 21, 3, 2, 9, 1, 513)), (93, (.iconst 0, 1, 0, 0, 0, 0)), (94, (.bipush 10, 2, 0, 0, 0, 0)), (96, (.invokestatic 50, 3, 0, 5, 8, 777)), (99, (.aload_n 1, 1, 0, 0, 0, 0)), (100, (.getfield 24, 3, 2, 10, 1, 514)), (103, (.iconst 0, 1, 0, 0, 0, 0)), (104, (.aload_n 0, 1, 0, 0, 0, 0)), (105, (.getfield 24, 3, 2, 10, 1, 514)), (108, (.iconst 0, 1, 0, 0, 0, 0)), (109, (.bipush 36, 2, 0, 0, 0, 0)), (111, (.invokestatic 50, 3, 0, 5, 8, 777))]), (99999, [(114, (.return_, 1, 0, 0, 0, 0))])]
def tb_39 : List (Nat × List (Nat × rvE)) := [(99999, [(0, (.aload_n 0, 1, 0, 0, 0, 0)), (1, (.iconst 0, 1, 0, 0, 0, 0)), (2, (.putfield 20, 3, 3, 1, 0, 547)), (5, (.return_, 1, 0, 0, 0, 0))])]
def tb_40 : List (Nat × List (Nat × rvE)) := [(22, [(0, (.aload_n 0, 1, 0, 0, 0, 0)), (1, (.iconst 0, 1, 0, 0, 0, 0)), (2, (.putfield 1, 3, 12, 0, 0, 1435)), (5, (.aload_n 0, 1, 0, 0, 0, 0)), (6, (.sipush 900, 3, 0, 0, 0, 0)), (9, (.invokevirtual 237, 3, 41, 1, 0, 1605)), (12, (.aload_n 0, 1, 0, 0, 0, 0)), (13, (.iconst 0, 1, 0, 0, 0, 0)), (14, (.putfield 169, 3, 12, 15, 0, 1450)), (17, (.aload_n 0, 1, 0, 0, 0, 0)), (18, (.iconst 0, 1, 0, 0, 0, 0)), (19, (.putfield 240, 3, 12, 19, 0, 1454))]), (43, [(22, (.iconst 0, 1, 0, 0, 0, 0)), (23, (.istore_n 1, 1, 0, 0, 0, 0)), (24, (.iload_n 1, 1, 0, 0, 0, 0)), (25, (.bipush 91, 2, 0, 0, 0, 0)), (27, (.if_icmp .ge 16, 3, 0, 0, 0, 0)), (30, (.aload_n 0, 1, 0, 0, 0, 0)), (31, (.getfield 37, 3, 12, 7, 1, 1442)), (34, (.iload_n 1, 1, 0, 0, 0, 0)), (35, (.iconst 0, 1, 0, 0, 0, 0)), (36, (.iastore, 1, 0, 0, 0, 0)), (37, (.iinc 1 1, 3, 0, 0, 0, 0)), (40, (.goto (-16), 3, 0, 0, 0, 0))]), (103, [(43, (.aload_n 0, 1, 0, 0, 0, 0)), (44, (.invokevirtual 181, 3, 42, 0, 0, 1609)), (47, (.aload_n 0, 1, 0, 0, 0, 0)), (48, (.getfield 152, 3, 12, 11, 0, 1446)), (51, (.ifCond .eq 39, 3, 0, 0, 0, 0)), (90, (.iconst 0, 1, 0, 0, 0, 0)), (91, (.istore_n 1, 1, 0, 0, 0, 0)), (92, (.iload_n 1, 1, 0, 0, 0, 0)), (93, (.sipush 296, 3, 0, 0, 0, 0)), (96, (.if_icmp .ge 31, 3, 0, 0, 0, 0)), (99, (.aload_n 0, 1, 0, 0, 0, 0)), (100, (.getfield 33, 3, 12, 6, 1, 1441))]), (124, [(103, (.iload_n 1, 1, 0, 0, 0, 0)), (104, (.iload_n 1, 1, 0, 0, 0, 0)), (105, (.bipush 91, 2, 0, 0, 0, 0)), (107, (.if_icmp .ge 12, 3, 0, 0, 0, 0)), (110, (.aload_n 0, 1, 0, 0, 0, 0)), (111, (.getfield 37, 3, 12, 7, 1, 1442)), (114, (.iload_n 1, 1, 0, 0, 0, 0)), (115, (.iaload, 1, 0, 0, 0, 0)), (116, (.goto 4, 3, 0, 0, 0, 0)), (119, (.iconst 0, 1, 0, 0, 0, 0)), (120, (.iastore, 1, 0, 0, 0, 0)), (121, (.iinc 1 1, 3, 0, 0, 0, 0))]), (146, [(124, (.goto (-32), 3, 0, 0, 0, 0)), (127, (.iconst 0, 1, 0, 0, 0, 0)), (128, (.istore_n 1, 1, 0, 0, 0, 0)), (129, (.iload_n 1, 1, 0, 0, 0, 0)), (130, (.bipush 20, 2, 0, 0, 0, 0)), (132, (.if_icmp .ge 24, 3, 0, 0, 0, 0)), (135, (.aload_n 0, 1, 0, 0, 0, 0)), (136, (.getfield 43, 3, 12, 9, 1, 1444)), (139, (.iload_n 1, 1, 0, 0, 0, 0)), (140, (.aload_n 0, 1, 0, 0, 0, 0)), (141, (.getfield 43, 3, 12, 9, 1, 1444)), (144, (.bipush 20, 2, 0, 0, 0, 0))]), (168, [(146, (.iload_n 1, 1, 0, 0, 0, 0)), (147, (.iadd, 1, 0, 0, 0, 0)), (148, (.laload, 1, 0, 0, 0, 0)), (149, (.lastore, 1, 0, 0, 0, 0)), (150, (.iinc 1 1, 3, 0, 0, 0, 0)), (153, (.goto (-24), 3, 0, 0, 0, 0)), (156, (.aload_n 0, 1, 0, 0, 0, 0)), (157, (.getfield 33, 3, 12, 6, 1, 1441)), (160, (.bipush 92, 2, 0, 0, 0, 0)), (162, (.aload_n 0, 1, 0, 0, 0, 0)), (163, (.getfield 33, 3, 12, 6, 1, 1441)), (166, (.bipush 34, 2, 0, 0, 0, 0))]), (186, [(168, (.iaload, 1, 0, 0, 0, 0)), (169, (.iastore, 1, 0, 0, 0, 0)), (170, (.iconst 0, 1, 0, 0, 0, 0)), (171, (.istore_n 1, 1, 0, 0, 0, 0)), (172, (.iload_n 1, 1, 0, 0, 0, 0)), (173, (.bipush 10, 2, 0, 0, 0, 0)), (175, (.if_icmp .ge 44, 3, 0, 0, 0, 0)), (178, (.aload_n 0, 1, 0, 0, 0, 0)), (179, (.getfield 33, 3, 12, 6, 1, 1441)), (182, (.bipush 95, 2, 0, 0, 0, 0)), (184, (.iload_n 1, 1, 0, 0, 0, 0)), (185, (.iadd, 1, 0, 0, 0, 0))]), (203, [(186, (.aload_n 0, 1, 0, 0, 0, 0)), (187, (.getfield 33, 3, 12, 6, 1, 1441)), (190, (.iconst 4, 1, 0, 0, 0, 0)), (191, (.iload_n 1, 1, 0, 0, 0, 0)), (192, (.iadd, 1, 0, 0, 0, 0)), (193, (.iaload, 1, 0, 0, 0, 0)), (194, (.iastore, 1, 0, 0, 0, 0)), (195, (.aload_n 0, 1, 0, 0, 0, 0)), (196, (.getfield 33, 3, 12, 6, 1, 1441)), (199, (.bipush 105, 2, 0, 0, 0, 0)), (201, (.iload_n 1, 1, 0, 0, 0, 0)), (202, (.iadd, 1, 0, 0, 0, 0))]), (224, [(203, (.aload_n 0, 1, 0, 0, 0, 0)), (204, (.getfield 33, 3, 12, 6, 1, 1441)), (207, (.bipush 45, 2, 0, 0, 0, 0)), (209, (.iload_n 1, 1, 0, 0, 0, 0)), (210, (.iadd, 1, 0, 0, 0, 0)), (211, (.iaload, 1, 0, 0, 0, 0)), (212, (.iastore, 1, 0, 0, 0, 0)), (213, (.iinc 1 1, 3, 0, 0, 0, 0)), (216, (.goto (-44), 3, 0, 0, 0, 0)), (219, (.aload_n 0, 1, 0, 0, 0, 0)), (220, (.iconst 0, 1, 0, 0, 0, 0)), (221, (.putfield 249, 3, 12, 23, 0, 1458))]), (99999, [(224, (.aload_n 0, 1, 0, 0, 0, 0)), (225, (.getfield 240, 3, 12, 19, 0, 1454)), (228, (.ireturn, 1, 0, 0, 0, 0))])]
def tb_41 : List (Nat × List (Nat × rvE)) := [(20, [(0, (.aload_n 0, 1, 0, 0, 0, 0)), (1, (.aload_n 0, 1, 0, 0, 0, 0)), (2, (.getfield 7, 3, 12, 2, 0, 1437)), (5, (.putfield 18, 3, 12, 3, 0, 1438)), (8, (.aload_n 0, 1, 0, 0, 0, 0)), (9, (.iconst 0, 1, 0, 0, 0, 0)), (10, (.putfield 7, 3, 12, 2, 0, 1437)), (13, (.aload_n 0, 1, 0, 0, 0, 0)), (14, (.iconst 0, 1, 0, 0, 0, 0)), (15, (.putfield 21, 3, 12, 4, 0, 1439)), (18, (.aload_n 0, 1, 0, 0, 0, 0)), (19, (.iload_n 1, 1, 0, 0, 0, 0))]), (99999, [(20, (.putfield 24, 3, 12, 5, 0, 1440)), (23, (.return_, 1, 0, 0, 0, 0))])]
def tb_42 : List (Nat × List (Nat × rvE)) := [(39, [(0, (.aload_n 0, 1, 0, 0, 0, 0)), (1, (.invokevirtual 142, 3, 43, 0, 0, 1613)), (4, (.bipush 32, 2, 0, 0, 0, 0)), (6, (.if_icmp .eq 12, 3, 0, 0, 0, 0)), (9, (.aload_n 0, 1, 0, 0, 0, 0)), (10, (.invokevirtual 142, 3, 43, 0, 0, 1613)), (13, (.bipush 10, 2, 0, 0, 0, 0)), (15, (.if_icmp .ne 16, 3, 0, 0, 0, 0)), (31, (.aload_n 0, 1, 0, 0, 0, 0)), (32, (.aload_n 0, 1, 0, 0, 0, 0)), (33, (.getfield 21, 3, 12, 4, 0, 1439)), (36, (.putfield 146, 3, 12, 12, 0, 1447))]), (86, [(39, (.aload_n 0, 1, 0, 0, 0, 0)), (40, (.iconst 0, 1, 0, 0, 0, 0)), (41, (.putfield 149, 3, 12, 13, 0, 1448)), (44, (.aload_n 0, 1, 0, 0, 0, 0)), (45, (.getfield 18, 3, 12, 3, 0, 1438)), (48, (.aload_n 0, 1, 0, 0, 0, 0)), (49, (.getfield 24, 3, 12, 5, 0, 1440)), (52, (.if_icmp .le 28, 3, 0, 0, 0, 0)), (80, (.aload_n 0, 1, 0, 0, 0, 0)), (81, (.invokevirtual 142, 3, 43, 0, 0, 1613)), (84, (.istore_n 1, 1, 0, 0, 0, 0)), (85, (.iload_n 1, 1, 0, 0, 0, 0))]), (99999, [(86, (.ifCond .ge 9, 3, 0, 0, 0, 0)), (89, (.aload_n 0, 1, 0, 0, 0, 0)), (90, (.iconst 0, 1, 0, 0, 0, 0)), (91, (.putfield 152, 3, 12, 11, 0, 1446)), (94, (.return_, 1, 0, 0, 0, 0))])]
def tb_43 : List (Nat × List (Nat × rvE)) := [(99999, [(0, (.aload_n 0, 1, 0, 0, 0, 0)), (1, (.getfield 21, 3, 12, 4, 0, 1439)), (4, (.aload_n 0, 1, 0, 0, 0, 0)), (5, (.getfield 18, 3, 12, 3, 0, 1438)), (8, (.if_icmp .ge 19, 3, 0, 0, 0, 0)), (27, (.iconst (-1), 1, 0, 0, 0, 0)), (28, (.ireturn, 1, 0, 0, 0, 0))])]
def tb_44 : List (Nat × List (Nat × rvE)) := [(99999, [(0, (.aload_n 0, 1, 0, 0, 0, 0)), (1, (.getfield 111, 3, 11, 14, 0, 567)), (4, (.ireturn, 1, 0, 0, 0, 0))])]
def tb_45 : List (Nat × List (Nat × rvE)) := [(99999, [(0, (.aload_n 0, 1, 0, 0, 0, 0)), (1, (.iconst 0, 1, 0, 0, 0, 0)), (2, (.putfield 1, 3, 12, 0, 0, 1435)), (5, (.aload_n 0, 1, 0, 0, 0, 0)), (6, (.getfield 169, 3, 12, 15, 0, 1450)), (9, (.ireturn, 1, 0, 0, 0, 0))])]
def tb_46 : List (Nat × List (Nat × rvE)) := [(99999, [(0, (.aload_n 0, 1, 0, 0, 0, 0)), (1, (.iload_n 1, 1, 0, 0, 0, 0)), (2, (.invokevirtual 169, 3, 47, 1, 0, 986)), (5, (.ifCond .eq 26, 3, 0, 0, 0, 0)), (31, (.iconst (-1), 1, 0, 0, 0, 0)), (32, (.ireturn, 1, 0, 0, 0, 0))])]
def tb_47 : List (Nat × List (Nat × rvE)) := [(99999, [(0, (.iload_n 1, 1, 0, 0, 0, 0)), (1, (.ifCond .lt 23, 3, 0, 0, 0, 0)), (4, (.iload_n 1, 1, 0, 0, 0, 0)), (5, (.aload_n 0, 1, 0, 0, 0, 0)), (6, (.getfield 82, 3, 11, 1, 1, 554)), (9, (.getfield 128, 3, 2, 0, 0, 485)), (12, (.getfield 161, 3, 10, 0, 1, 438)), (15, (.iconst 2, 1, 0, 0, 0, 0)), (16, (.iaload, 1, 0, 0, 0, 0)), (17, (.if_icmp .ge 7, 3, 0, 0, 0, 0)), (24, (.iconst 0, 1, 0, 0, 0, 0)), (25, (.ireturn, 1, 0, 0, 0, 0))])]
def tb_48 : List (Nat × List (Nat × rvE)) := [(99999, [(0, (.aload_n 0, 1, 0, 0, 0, 0)), (1, (.iconst 0, 1, 0, 0, 0, 0)), (2, (.putfield 1, 3, 12, 0, 0, 1435)), (5, (.aload_n 0, 1, 0, 0, 0, 0)), (6, (.iload_n 1, 1, 0, 0, 0, 0)), (7, (.invokevirtual 272, 3, 49, 1, 0, 1704)), (10, (.ifCond .eq 20, 3, 0, 0, 0, 0)), (30, (.iconst (-1), 1, 0, 0, 0, 0)), (31, (.ireturn, 1, 0, 0, 0, 0))])]
def tb_49 : List (Nat × List (Nat × rvE)) := [(99999, [(0, (.iload_n 1, 1, 0, 0, 0, 0)), (1, (.iconst 0, 1, 0, 0, 0, 0)), (2, (.aload_n 0, 1, 0, 0, 0, 0)), (3, (.getfield 33, 3, 12, 6, 1, 1441)), (6, (.iconst 2, 1, 0, 0, 0, 0)), (7, (.iaload, 1, 0, 0, 0, 0)), (8, (.iconst 1, 1, 0, 0, 0, 0)), (9, (.isub, 1, 0, 0, 0, 0)), (10, (.invokestatic 184, 3, 50, 3, 0, 1671)), (13, (.ireturn, 1, 0, 0, 0, 0))])]
def tb_50 : List (Nat × List (Nat × rvE)) := [(99999, [(0, (.iload_n 0, 1, 0, 0, 0, 0)), (1, (.iload_n 1, 1, 0, 0, 0, 0)), (2, (.if_icmp .lt 12, 3, 0, 0, 0, 0)), (5, (.iload_n 0, 1, 0, 0, 0, 0)), (6, (.iload_n 2, 1, 0, 0, 0, 0)), (7, (.if_icmp .gt 7, 3, 0, 0, 0, 0)), (10, (.iconst 1, 1, 0, 0, 0, 0)), (11, (.goto 4, 3, 0, 0, 0, 0)), (14, (.iconst 0, 1, 0, 0, 0, 0)), (15, (.ireturn, 1, 0, 0, 0, 0))])]
def tb_51 : List (Nat × List (Nat × rvE)) := [(99999, [(0, (.aload_n 0, 1, 0, 0, 0, 0)), (1, (.iload_n 1, 1, 0, 0, 0, 0)), (2, (.invokevirtual 210, 3, 52, 1, 0, 1002)), (5, (.ifCond .eq 15, 3, 0, 0, 0, 0)), (8, (.aload_n 0, 1, 0, 0, 0, 0)), (9, (.getfield 82, 3, 11, 1, 1, 554)), (12, (.getfield 213, 3, 2, 8, 1, 512)), (15, (.iload_n 1, 1, 0, 0, 0, 0)), (16, (.iaload, 1, 0, 0, 0, 0)), (17, (.goto 4, 3, 0, 0, 0, 0)), (20, (.iconst (-1), 1, 0, 0, 0, 0)), (21, (.ireturn, 1, 0, 0, 0, 0))])]
def tb_52 : List (Nat × List (Nat × rvE)) := [(99999, [(0, (.iload_n 1, 1, 0, 0, 0, 0)), (1, (.ifCond .lt 21, 3, 0, 0, 0, 0)), (4, (.iload_n 1, 1, 0, 0, 0, 0)), (5, (.aload_n 0, 1, 0, 0, 0, 0)), (6, (.getfield 82, 3, 11, 1, 1, 554)), (9, (.getfield 128, 3, 2, 0, 0, 485)), (12, (.invokevirtual 165, 3, 36, 0, 0, 981)), (15, (.if_icmp .ge 7, 3, 0, 0, 0, 0)), (18, (.iconst 1, 1, 0, 0, 0, 0)), (19, (.goto 4, 3, 0, 0, 0, 0)), (22, (.iconst 0, 1, 0, 0, 0, 0)), (23, (.ireturn, 1, 0, 0, 0, 0))])]
def tb_53 : List (Nat × List (Nat × rvE)) := [(22, [(0, (.aload_n 0, 1, 0, 0, 0, 0)), (1, (.iconst 0, 1, 0, 0, 0, 0)), (2, (.putfield 1, 3, 12, 0, 0, 1435)), (5, (.aload_n 0, 1, 0, 0, 0, 0)), (6, (.invokevirtual 288, 3, 54, 0, 0, 1736)), (9, (.aload_n 0, 1, 0, 0, 0, 0)), (10, (.iload_n 1, 1, 0, 0, 0, 0)), (11, (.invokevirtual 291, 3, 55, 1, 0, 1740)), (14, (.ifCond .eq 12, 3, 0, 0, 0, 0)), (17, (.aload_n 0, 1, 0, 0, 0, 0)), (18, (.getfield 50, 3, 12, 20, 1, 1455)), (21, (.iload_n 1, 1, 0, 0, 0, 0))]), (99999, [(22, (.iaload, 1, 0, 0, 0, 0)), (23, (.goto 4, 3, 0, 0, 0, 0)), (26, (.iconst (-1), 1, 0, 0, 0, 0)), (27, (.ireturn, 1, 0, 0, 0, 0))])]
def tb_54 : List (Nat × List (Nat × rvE)) := [(21, [(0, (.iconst 0, 1, 0, 0, 0, 0)), (1, (.istore_n 1, 1, 0, 0, 0, 0)), (2, (.iload_n 1, 1, 0, 0, 0, 0)), (3, (.bipush 12, 2, 0, 0, 0, 0)), (5, (.if_icmp .ge 16, 3, 0, 0, 0, 0)), (8, (.aload_n 0, 1, 0, 0, 0, 0)), (9, (.getfield 50, 3, 12, 20, 1, 1455)), (12, (.iload_n 1, 1, 0, 0, 0, 0)), (13, (.iconst 0, 1, 0, 0, 0, 0)), (14, (.iastore, 1, 0, 0, 0, 0)), (15, (.iinc 1 1, 3, 0, 0, 0, 0)), (18, (.goto (-16), 3, 0, 0, 0, 0))]), (99999, [(21, (.iconst 0, 1, 0, 0, 0, 0)), (22, (.istore_n 1, 1, 0, 0, 0, 0)), (23, (.iload_n 1, 1, 0, 0, 0, 0)), (24, (.aload_n 0, 1, 0, 0, 0, 0)), (25, (.getfield 33, 3, 12, 6, 1, 1441)), (28, (.iconst 2, 1, 0, 0, 0, 0)), (29, (.iaload, 1, 0, 0, 0, 0)), (30, (.if_icmp .ge 147, 3, 0, 0, 0, 0)), (177, (.return_, 1, 0, 0, 0, 0))])]
def tb_55 : List (Nat × List (Nat × rvE)) := [(99999, [(0, (.iload_n 1, 1, 0, 0, 0, 0)), (1, (.iconst 0, 1, 0, 0, 0, 0)), (2, (.aload_n 0, 1, 0, 0, 0, 0)), (3, (.invokevirtual 252, 3, 56, 0, 0, 1744)), (6, (.iconst 1, 1, 0, 0, 0, 0)), (7, (.isub, 1, 0, 0, 0, 0)), (8, (.invokestatic 184, 3, 50, 3, 0, 1671)), (11, (.ireturn, 1, 0, 0, 0, 0))])]
def tb_56 : List (Nat × List (Nat × rvE)) := [(99999, [(0, (.iconst 5, 1, 0, 0, 0, 0)), (1, (.aload_n 0, 1, 0, 0, 0, 0)), (2, (.getfield 33, 3, 12, 6, 1, 1441)), (5, (.iconst 0, 1, 0, 0, 0, 0)), (6, (.iaload, 1, 0, 0, 0, 0)), (7, (.iadd, 1, 0, 0, 0, 0)), (8, (.aload_n 0, 1, 0, 0, 0, 0)), (9, (.getfield 33, 3, 12, 6, 1, 1441)), (12, (.iconst 1, 1, 0, 0, 0, 0)), (13, (.iaload, 1, 0, 0, 0, 0)), (14, (.iadd, 1, 0, 0, 0, 0)), (15, (.ireturn, 1, 0, 0, 0, 0))])]
def tb_57 : List (Nat × List (Nat × rvE)) := [(99999, [(0, (.aload_n 0, 1, 0, 0, 0, 0)), (1, (.iload_n 1, 1, 0, 0, 0, 0)), (2, (.invokevirtual 210, 3, 52, 1, 0, 1002)), (5, (.ifCond .eq 23, 3, 0, 0, 0, 0)), (8, (.aload_n 0, 1, 0, 0, 0, 0)), (9, (.iload_n 2, 1, 0, 0, 0, 0)), (10, (.invokevirtual 203, 3, 59, 1, 0, 990)), (13, (.ifCond .eq 15, 3, 0, 0, 0, 0)), (28, (.iconst (-1), 1, 0, 0, 0, 0)), (29, (.ireturn, 1, 0, 0, 0, 0))])]
def tb_58 : List (Nat × List (Nat × rvE)) := [(22, [(0, (.aload_n 0, 1, 0, 0, 0, 0)), (1, (.iconst 0, 1, 0, 0, 0, 0)), (2, (.putfield 1, 3, 12, 0, 0, 1435)), (5, (.aload_n 0, 1, 0, 0, 0, 0)), (6, (.invokevirtual 288, 3, 54, 0, 0, 1736)), (9, (.aload_n 0, 1, 0, 0, 0, 0)), (10, (.iload_n 1, 1, 0, 0, 0, 0)), (11, (.invokevirtual 291, 3, 55, 1, 0, 1740)), (14, (.ifCond .eq 28, 3, 0, 0, 0, 0)), (17, (.aload_n 0, 1, 0, 0, 0, 0)), (18, (.iload_n 2, 1, 0, 0, 0, 0)), (19, (.invokevirtual 285, 3, 60, 1, 0, 1728))]), (99999, [(22, (.ifCond .eq 20, 3, 0, 0, 0, 0)), (42, (.iconst (-1), 1, 0, 0, 0, 0)), (43, (.ireturn, 1, 0, 0, 0, 0))])]
def tb_59 : List (Nat × List (Nat × rvE)) := [(99999, [(0, (.iload_n 1, 1, 0, 0, 0, 0)), (1, (.ifCond .lt 23, 3, 0, 0, 0, 0)), (4, (.iload_n 1, 1, 0, 0, 0, 0)), (5, (.aload_n 0, 1, 0, 0, 0, 0)), (6, (.getfield 82, 3, 11, 1, 1, 554)), (9, (.getfield 128, 3, 2, 0, 0, 485)), (12, (.getfield 161, 3, 10, 0, 1, 438)), (15, (.iconst 3, 1, 0, 0, 0, 0)), (16, (.iaload, 1, 0, 0, 0, 0)), (17, (.if_icmp .ge 7, 3, 0, 0, 0, 0)), (24, (.iconst 0, 1, 0, 0, 0, 0)), (25, (.ireturn, 1, 0, 0, 0, 0))])]
def tb_60 : List (Nat × List (Nat × rvE)) := [(99999, [(0, (.iload_n 1, 1, 0, 0, 0, 0)), (1, (.iconst 0, 1, 0, 0, 0, 0)), (2, (.aload_n 0, 1, 0, 0, 0, 0)), (3, (.getfield 33, 3, 12, 6, 1, 1441)), (6, (.iconst 3, 1, 0, 0, 0, 0)), (7, (.iaload, 1, 0, 0, 0, 0)), (8, (.iconst 1, 1, 0, 0, 0, 0)), (9, (.isub, 1, 0, 0, 0, 0)), (10, (.invokestatic 184, 3, 50, 3, 0, 1671)), (13, (.ireturn, 1, 0, 0, 0, 0))])]
def tb_61 : List (Nat × List (Nat × rvE)) := [(99999, [(0, (.aload_n 0, 1, 0, 0, 0, 0)), (1, (.iload_n 1, 1, 0, 0, 0, 0)), (2, (.invokevirtual 210, 3, 52, 1, 0, 1002)), (5, (.ifCond .eq 36, 3, 0, 0, 0, 0)), (8, (.aload_n 0, 1, 0, 0, 0, 0)), (9, (.iload_n 2, 1, 0, 0, 0, 0)), (10, (.invokevirtual 203, 3, 59, 1, 0, 990)), (13, (.ifCond .eq 28, 3, 0, 0, 0, 0)), (41, (.iconst (-1), 1, 0, 0, 0, 0)), (42, (.ireturn, 1, 0, 0, 0, 0))])]
def tb_62 : List (Nat × List (Nat × rvE)) := [(22, [(0, (.aload_n 0, 1, 0, 0, 0, 0)), (1, (.iconst 0, 1, 0, 0, 0, 0)), (2, (.putfield 1, 3, 12, 0, 0, 1435)), (5, (.aload_n 0, 1, 0, 0, 0, 0)), (6, (.invokevirtual 288, 3, 54, 0, 0, 1736)), (9, (.aload_n 0, 1, 0, 0, 0, 0)), (10, (.iload_n 1, 1, 0, 0, 0, 0)), (11, (.invokevirtual 291, 3, 55, 1, 0, 1740)), (14, (.ifCond .eq 29, 3, 0, 0, 0, 0)), (17, (.aload_n 0, 1, 0, 0, 0, 0)), (18, (.iload_n 2, 1, 0, 0, 0, 0)), (19, (.invokevirtual 285, 3, 60, 1, 0, 1728))]), (99999, [(22, (.ifCond .eq 21, 3, 0, 0, 0, 0)), (43, (.iconst (-1), 1, 0, 0, 0, 0)), (44, (.ireturn, 1, 0, 0, 0, 0))])]
def tb_63 : List (Nat × List (Nat × rvE)) := [(99999, [(0, (.aload_n 0, 1, 0, 0, 0, 0)), (1, (.iload_n 1, 1, 0, 0, 0, 0)), (2, (.invokevirtual 210, 3, 52, 1, 0, 1002)), (5, (.ifCond .eq 37, 3, 0, 0, 0, 0)), (8, (.aload_n 0, 1, 0, 0, 0, 0)), (9, (.iload_n 2, 1, 0, 0, 0, 0)), (10, (.invokevirtual 203, 3, 59, 1, 0, 990)), (13, (.ifCond .eq 29, 3, 0, 0, 0, 0)), (42, (.iconst (-1), 1, 0, 0, 0, 0)), (43, (.ireturn, 1, 0, 0, 0, 0))])]
def tb_64 : List (Nat × List (Nat × rvE)) := [(22, [(0, (.aload_n 0, 1, 0, 0, 0, 0)), (1, (.iconst 0, 1, 0, 0, 0, 0)), (2, (.putfield 1, 3, 12, 0, 0, 1435)), (5, (.aload_n 0, 1, 0, 0, 0, 0)), (6, (.invokevirtual 288, 3, 54, 0, 0, 1736)), (9, (.aload_n 0, 1, 0, 0, 0, 0)), (10, (.iload_n 1, 1, 0, 0, 0, 0)), (11, (.invokevirtual 291, 3, 55, 1, 0, 1740)), (14, (.ifCond .eq 43, 3, 0, 0, 0, 0)), (17, (.aload_n 0, 1, 0, 0, 0, 0)), (18, (.iload_n 2, 1, 0, 0, 0, 0)), (19, (.invokevirtual 285, 3, 60, 1, 0, 1728))]), (99999, [(22, (.ifCond .eq 35, 3, 0, 0, 0, 0)), (57, (.iconst (-1), 1, 0, 0, 0, 0)), (58, (.ireturn, 1, 0, 0, 0, 0))])]
def tb_65 : List (Nat × List (Nat × rvE)) := [(99999, [(0, (.aload_n 0, 1, 0, 0, 0, 0)), (1, (.iload_n 1, 1, 0, 0, 0, 0)), (2, (.invokevirtual 203, 3, 59, 1, 0, 990)), (5, (.ifCond .eq 14, 3, 0, 0, 0, 0)), (19, (.iconst (-1), 1, 0, 0, 0, 0)), (20, (.ireturn, 1, 0, 0, 0, 0))])]
def tb_66 : List (Nat × List (Nat × rvE)) := [(99999, [(0, (.aload_n 0, 1, 0, 0, 0, 0)), (1, (.iconst 0, 1, 0, 0, 0, 0)), (2, (.putfield 1, 3, 12, 0, 0, 1435)), (5, (.aload_n 0, 1, 0, 0, 0, 0)), (6, (.invokevirtual 288, 3, 54, 0, 0, 1736)), (9, (.aload_n 0, 1, 0, 0, 0, 0)), (10, (.iload_n 1, 1, 0, 0, 0, 0)), (11, (.invokevirtual 285, 3, 60, 1, 0, 1728)), (14, (.ifCond .eq 16, 3, 0, 0, 0, 0)), (30, (.iconst (-1), 1, 0, 0, 0, 0)), (31, (.ireturn, 1, 0, 0, 0, 0))])]
def tb_67 : List (Nat × List (Nat × rvE)) := [(60, [(0, (.iload_n 1, 1, 0, 0, 0, 0)), (1, (.tableswitch 87 0 5 #[39, 47, 55, 63, 71, 79], 39, 0, 0, 0, 0)), (40, (.aload_n 0, 1, 0, 0, 0, 0)), (41, (.getfield 82, 3, 11, 1, 1, 554)), (44, (.getfield 228, 3, 2, 2, 0, 495)), (47, (.ireturn, 1, 0, 0, 0, 0)), (48, (.aload_n 0, 1, 0, 0, 0, 0)), (49, (.getfield 82, 3, 11, 1, 1, 554)), (52, (.getfield 189, 3, 2, 1, 0, 492)), (55, (.ireturn, 1, 0, 0, 0, 0)), (56, (.aload_n 0, 1, 0, 0, 0, 0)), (57, (.getfield 82, 3, 11, 1, 1, 554))]), (84, [(60, (.getfield 231, 3, 2, 3, 0, 497)), (63, (.ireturn, 1, 0, 0, 0, 0)), (64, (.aload_n 0, 1, 0, 0, 0, 0)), (65, (.getfield 82, 3, 11, 1, 1, 554)), (68, (.invokevirtual 234, 3, 69, 0, 0, 1032)), (71, (.ireturn, 1, 0, 0, 0, 0)), (72, (.aload_n 0, 1, 0, 0, 0, 0)), (73, (.getfield 82, 3, 11, 1, 1, 554)), (76, (.invokevirtual 237, 3, 71, 0, 0, 1033)), (79, (.ireturn, 1, 0, 0, 0, 0)), (80, (.aload_n 0, 1, 0, 0, 0, 0)), (81, (.getfield 82, 3, 11, 1, 1, 554))]), (99999, [(84, (.getfield 240, 3, 2, 4, 0, 499)), (87, (.ireturn, 1, 0, 0, 0, 0)), (88, (.iconst (-1), 1, 0, 0, 0, 0)), (89, (.ireturn, 1, 0, 0, 0, 0))])]
def tb_68 : List (Nat × List (Nat × rvE)) := [(16, [(0, (.aload_n 0, 1, 0, 0, 0, 0)), (1, (.iconst 0, 1, 0, 0, 0, 0)), (2, (.putfield 1, 3, 12, 0, 0, 1435)), (5, (.iconst 0, 1, 0, 0, 0, 0)), (6, (.istore_n 2, 1, 0, 0, 0, 0)), (7, (.iconst 0, 1, 0, 0, 0, 0)), (8, (.istore_n 3, 1, 0, 0, 0, 0)), (9, (.iload_n 3, 1, 0, 0, 0, 0)), (10, (.aload_n 0, 1, 0, 0, 0, 0)), (11, (.getfield 33, 3, 12, 6, 1, 1441)), (14, (.iconst 2, 1, 0, 0, 0, 0)), (15, (.iaload, 1, 0, 0, 0, 0))]), (99, [(16, (.if_icmp .ge 29, 3, 0, 0, 0, 0)), (45, (.iload_n 1, 1, 0, 0, 0, 0)), (46, (.tableswitch 77 0 5 #[38, 46, 54, 62, 67, 69], 38, 0, 0, 0, 0)), (84, (.aload_n 0, 1, 0, 0, 0, 0)), (85, (.getfield 33, 3, 12, 6, 1, 1441)), (88, (.bipush 91, 2, 0, 0, 0, 0)), (90, (.iaload, 1, 0, 0, 0, 0)), (91, (.ireturn, 1, 0, 0, 0, 0)), (92, (.aload_n 0, 1, 0, 0, 0, 0)), (93, (.getfield 33, 3, 12, 6, 1, 1441)), (96, (.bipush 92, 2, 0, 0, 0, 0)), (98, (.iaload, 1, 0, 0, 0, 0))]), (116, [(99, (.ireturn, 1, 0, 0, 0, 0)), (100, (.aload_n 0, 1, 0, 0, 0, 0)), (101, (.getfield 33, 3, 12, 6, 1, 1441)), (104, (.bipush 93, 2, 0, 0, 0, 0)), (106, (.iaload, 1, 0, 0, 0, 0)), (107, (.ireturn, 1, 0, 0, 0, 0)), (108, (.aload_n 0, 1, 0, 0, 0, 0)), (109, (.invokevirtual 300, 3, 70, 0, 0, 1790)), (112, (.ireturn, 1, 0, 0, 0, 0)), (113, (.iload_n 2, 1, 0, 0, 0, 0)), (114, (.ireturn, 1, 0, 0, 0, 0)), (115, (.aload_n 0, 1, 0, 0, 0, 0))]), (99999, [(116, (.getfield 33, 3, 12, 6, 1, 1441)), (119, (.bipush 94, 2, 0, 0, 0, 0)), (121, (.iaload, 1, 0, 0, 0, 0)), (122, (.ireturn, 1, 0, 0, 0, 0)), (123, (.iconst (-1), 1, 0, 0, 0, 0)), (124, (.ireturn, 1, 0, 0, 0, 0))])]
def tb_69 : List (Nat × List (Nat × rvE)) := [(32, [(0, (.iconst 0, 1, 0, 0, 0, 0)), (1, (.istore_n 1, 1, 0, 0, 0, 0)), (2, (.iconst 0, 1, 0, 0, 0, 0)), (3, (.istore_n 2, 1, 0, 0, 0, 0)), (4, (.iload_n 2, 1, 0, 0, 0, 0)), (5, (.aload_n 0, 1, 0, 0, 0, 0)), (6, (.getfield 27, 3, 2, 0, 0, 480)), (9, (.getfield 62, 3, 10, 0, 1, 436)), (12, (.iconst 3, 1, 0, 0, 0, 0)), (13, (.iaload, 1, 0, 0, 0, 0)), (14, (.if_icmp .ge 17, 3, 0, 0, 0, 0)), (31, (.iload_n 1, 1, 0, 0, 0, 0))]), (99999, [(32, (.ireturn, 1, 0, 0, 0, 0))])]
def tb_70 : List (Nat × List (Nat × rvE)) := [(37, [(0, (.aload_n 0, 1, 0, 0, 0, 0)), (1, (.invokevirtual 288, 3, 54, 0, 0, 1736)), (4, (.iconst 0, 1, 0, 0, 0, 0)), (5, (.istore_n 1, 1, 0, 0, 0, 0)), (6, (.iconst 0, 1, 0, 0, 0, 0)), (7, (.istore_n 2, 1, 0, 0, 0, 0)), (8, (.iload_n 2, 1, 0, 0, 0, 0)), (9, (.aload_n 0, 1, 0, 0, 0, 0)), (10, (.getfield 33, 3, 12, 6, 1, 1441)), (13, (.iconst 3, 1, 0, 0, 0, 0)), (14, (.iaload, 1, 0, 0, 0, 0)), (15, (.if_icmp .ge 22, 3, 0, 0, 0, 0))]), (99999, [(37, (.iload_n 1, 1, 0, 0, 0, 0)), (38, (.ireturn, 1, 0, 0, 0, 0))])]
def tb_71 : List (Nat × List (Nat × rvE)) := [(43, [(0, (.iconst 0, 1, 0, 0, 0, 0)), (1, (.istore_n 1, 1, 0, 0, 0, 0)), (2, (.iconst 0, 1, 0, 0, 0, 0)), (3, (.istore_n 2, 1, 0, 0, 0, 0)), (4, (.iload_n 2, 1, 0, 0, 0, 0)), (5, (.aload_n 0, 1, 0, 0, 0, 0)), (6, (.getfield 27, 3, 2, 0, 0, 480)), (9, (.getfield 62, 3, 10, 0, 1, 436)), (12, (.iconst 2, 1, 0, 0, 0, 0)), (13, (.iaload, 1, 0, 0, 0, 0)), (14, (.if_icmp .ge 28, 3, 0, 0, 0, 0)), (42, (.iload_n 1, 1, 0, 0, 0, 0))]), (99999, [(43, (.ireturn, 1, 0, 0, 0, 0))])]
def tb_72 : List (Nat × List (Nat × rvE)) := [(99999, [(0, (.aload_n 0, 1, 0, 0, 0, 0)), (1, (.iload_n 1, 1, 0, 0, 0, 0)), (2, (.invokevirtual 169, 3, 47, 1, 0, 986)), (5, (.ifCond .eq 22, 3, 0, 0, 0, 0)), (27, (.iconst (-1), 1, 0, 0, 0, 0)), (28, (.ireturn, 1, 0, 0, 0, 0))])]
def tb_73 : List (Nat × List (Nat × rvE)) := [(99999, [(0, (.aload_n 0, 1, 0, 0, 0, 0)), (1, (.iconst 0, 1, 0, 0, 0, 0)), (2, (.putfield 1, 3, 12, 0, 0, 1435)), (5, (.aload_n 0, 1, 0, 0, 0, 0)), (6, (.iload_n 1, 1, 0, 0, 0, 0)), (7, (.invokevirtual 272, 3, 49, 1, 0, 1704)), (10, (.ifCond .eq 11, 3, 0, 0, 0, 0)), (21, (.iconst (-1), 1, 0, 0, 0, 0)), (22, (.ireturn, 1, 0, 0, 0, 0))])]
def tb_74 : List (Nat × List (Nat × rvE)) := [(99999, [(0, (.aload_n 0, 1, 0, 0, 0, 0)), (1, (.iload_n 1, 1, 0, 0, 0, 0)), (2, (.invokevirtual 169, 3, 47, 1, 0, 986)), (5, (.ifCond .eq 22, 3, 0, 0, 0, 0)), (27, (.iconst (-1), 1, 0, 0, 0, 0)), (28, (.ireturn, 1, 0, 0, 0, 0))])]
def tb_75 : List (Nat × List (Nat × rvE)) := [(99999, [(0, (.aload_n 0, 1, 0, 0, 0, 0)), (1, (.iconst 0, 1, 0, 0, 0, 0)), (2, (.putfield 1, 3, 12, 0, 0, 1435)), (5, (.aload_n 0, 1, 0, 0, 0, 0)), (6, (.iload_n 1, 1, 0, 0, 0, 0)), (7, (.invokevirtual 272, 3, 49, 1, 0, 1704)), (10, (.ifCond .eq 11, 3, 0, 0, 0, 0)), (21, (.iconst (-1), 1, 0, 0, 0, 0)), (22, (.ireturn, 1, 0, 0, 0, 0))])]
def tb_76 : List (Nat × List (Nat × rvE)) := [(99999, [(0, (.aload_n 0, 1, 0, 0, 0, 0)), (1, (.iload_n 1, 1, 0, 0, 0, 0)), (2, (.invokevirtual 169, 3, 47, 1, 0, 986)), (5, (.ifCond .eq 22, 3, 0, 0, 0, 0)), (27, (.iconst (-1), 1, 0, 0, 0, 0)), (28, (.ireturn, 1, 0, 0, 0, 0))])]
def tb_77 : List (Nat × List (Nat × rvE)) := [(99999, [(0, (.aload_n 0, 1, 0, 0, 0, 0)), (1, (.iconst 0, 1, 0, 0, 0, 0)), (2, (.putfield 1, 3, 12, 0, 0, 1435)), (5, (.aload_n 0, 1, 0, 0, 0, 0)), (6, (.iload_n 1, 1, 0, 0, 0, 0)), (7, (.invokevirtual 272, 3, 49, 1, 0, 1704)), (10, (.ifCond .eq 11, 3, 0, 0, 0, 0)), (21, (.iconst (-1), 1, 0, 0, 0, 0)), (22, (.ireturn, 1, 0, 0, 0, 0))])]
def tb_78 : List (Nat × List (Nat × rvE)) := [(99999, [(0, (.aload_n 0, 1, 0, 0, 0, 0)), (1, (.iload_n 1, 1, 0, 0, 0, 0)), (2, (.invokevirtual 169, 3, 47, 1, 0, 986)), (5, (.ifCond .eq 14, 3, 0, 0, 0, 0)), (19, (.iconst (-1), 1, 0, 0, 0, 0)), (20, (.ireturn, 1, 0, 0, 0, 0))])]
def tb_79 : List (Nat × List (Nat × rvE)) := [(99999, [(0, (.aload_n 0, 1, 0, 0, 0, 0)), (1, (.iload_n 1, 1, 0, 0, 0, 0)), (2, (.iconst 1, 1, 0, 0, 0, 0)), (3, (.invokevirtual 324, 3, 80, 2, 0, 1830)), (6, (.ireturn, 1, 0, 0, 0, 0))])]
def tb_80 : List (Nat × List (Nat × rvE)) := [(99999, [(0, (.aload_n 0, 1, 0, 0, 0, 0)), (1, (.iconst 0, 1, 0, 0, 0, 0)), (2, (.putfield 1, 3, 12, 0, 0, 1435)), (5, (.aload_n 0, 1, 0, 0, 0, 0)), (6, (.iload_n 1, 1, 0, 0, 0, 0)), (7, (.invokevirtual 272, 3, 49, 1, 0, 1704)), (10, (.ifCond .ne 5, 3, 0, 0, 0, 0)), (13, (.iconst (-1), 1, 0, 0, 0, 0)), (14, (.ireturn, 1, 0, 0, 0, 0))])]
def tb_81 : List (Nat × List (Nat × rvE)) := [(99999, [(0, (.aload_n 0, 1, 0, 0, 0, 0)), (1, (.iload_n 1, 1, 0, 0, 0, 0)), (2, (.invokevirtual 169, 3, 47, 1, 0, 986)), (5, (.ifCond .eq 14, 3, 0, 0, 0, 0)), (19, (.iconst (-1), 1, 0, 0, 0, 0)), (20, (.ireturn, 1, 0, 0, 0, 0))])]
def tb_82 : List (Nat × List (Nat × rvE)) := [(99999, [(0, (.aload_n 0, 1, 0, 0, 0, 0)), (1, (.iload_n 1, 1, 0, 0, 0, 0)), (2, (.iconst 0, 1, 0, 0, 0, 0)), (3, (.invokevirtual 324, 3, 80, 2, 0, 1830)), (6, (.ireturn, 1, 0, 0, 0, 0))])]
def tb_83 : List (Nat × List (Nat × rvE)) := [(23, [(0, (.iload_n 1, 1, 0, 0, 0, 0)), (1, (.iconst 1, 1, 0, 0, 0, 0)), (2, (.bipush 60, 2, 0, 0, 0, 0)), (4, (.invokestatic 260, 3, 84, 3, 0, 1112)), (7, (.ifCond .ne 5, 3, 0, 0, 0, 0)), (10, (.iconst (-1), 1, 0, 0, 0, 0)), (11, (.ireturn, 1, 0, 0, 0, 0)), (12, (.aload_n 0, 1, 0, 0, 0, 0)), (13, (.getfield 86, 3, 11, 2, 1, 555)), (16, (.aload_n 0, 1, 0, 0, 0, 0)), (17, (.getfield 82, 3, 11, 1, 1, 554)), (20, (.invokevirtual 117, 3, 38, 1, 0, 773))]), (47, [(23, (.aload_n 0, 1, 0, 0, 0, 0)), (24, (.getfield 82, 3, 11, 1, 1, 554)), (27, (.iload_n 1, 1, 0, 0, 0, 0)), (28, (.invokevirtual 264, 3, 86, 1, 0, 1113)), (31, (.istore_n 2, 1, 0, 0, 0, 0)), (32, (.iload_n 2, 1, 0, 0, 0, 0)), (33, (.ifCond .le 14, 3, 0, 0, 0, 0)), (36, (.aload_n 0, 1, 0, 0, 0, 0)), (37, (.getfield 92, 3, 11, 3, 1, 556)), (40, (.aload_n 0, 1, 0, 0, 0, 0)), (41, (.getfield 86, 3, 11, 2, 1, 555)), (44, (.invokevirtual 138, 3, 88, 1, 0, 868))]), (99999, [(47, (.iload_n 2, 1, 0, 0, 0, 0)), (48, (.ireturn, 1, 0, 0, 0, 0))])]
def tb_84 : List (Nat × List (Nat × rvE)) := [(99999, [(0, (.iload_n 0, 1, 0, 0, 0, 0)), (1, (.iload_n 1, 1, 0, 0, 0, 0)), (2, (.if_icmp .lt 12, 3, 0, 0, 0, 0)), (5, (.iload_n 0, 1, 0, 0, 0, 0)), (6, (.iload_n 2, 1, 0, 0, 0, 0)), (7, (.if_icmp .gt 7, 3, 0, 0, 0, 0)), (10, (.iconst 1, 1, 0, 0, 0, 0)), (11, (.goto 4, 3, 0, 0, 0, 0)), (14, (.iconst 0, 1, 0, 0, 0, 0)), (15, (.ireturn, 1, 0, 0, 0, 0))])]
def tb_85 : List (Nat × List (Nat × rvE)) := [(21, [(0, (.aload_n 0, 1, 0, 0, 0, 0)), (1, (.iconst 0, 1, 0, 0, 0, 0)), (2, (.putfield 1, 3, 12, 0, 0, 1435)), (5, (.iload_n 1, 1, 0, 0, 0, 0)), (6, (.iconst 1, 1, 0, 0, 0, 0)), (7, (.bipush 60, 2, 0, 0, 0, 0)), (9, (.invokestatic 184, 3, 50, 3, 0, 1671)), (12, (.ifCond .ne 5, 3, 0, 0, 0, 0)), (15, (.iconst (-1), 1, 0, 0, 0, 0)), (16, (.ireturn, 1, 0, 0, 0, 0)), (17, (.aload_n 0, 1, 0, 0, 0, 0)), (18, (.getfield 33, 3, 12, 6, 1, 1441))]), (99999, [(21, (.bipush 91, 2, 0, 0, 0, 0)), (23, (.iaload, 1, 0, 0, 0, 0)), (24, (.sipush 200, 3, 0, 0, 0, 0)), (27, (.if_icmp .ne 5, 3, 0, 0, 0, 0)), (32, (.aload_n 0, 1, 0, 0, 0, 0)), (33, (.invokevirtual 312, 3, 89, 0, 0, 1802)), (36, (.aload_n 0, 1, 0, 0, 0, 0)), (37, (.iload_n 1, 1, 0, 0, 0, 0)), (38, (.invokevirtual 328, 3, 90, 1, 0, 1842)), (41, (.ireturn, 1, 0, 0, 0, 0))])]
def tb_86 : List (Nat × List (Nat × rvE)) := [(20, [(0, (.iconst 0, 1, 0, 0, 0, 0)), (1, (.istore_n 2, 1, 0, 0, 0, 0)), (2, (.iconst 0, 1, 0, 0, 0, 0)), (3, (.istore_n 3, 1, 0, 0, 0, 0)), (4, (.iload_n 3, 1, 0, 0, 0, 0)), (5, (.iload_n 1, 1, 0, 0, 0, 0)), (6, (.if_icmp .ge 27, 3, 0, 0, 0, 0)), (9, (.aload_n 0, 1, 0, 0, 0, 0)), (10, (.getfield 35, 3, 2, 2, 0, 493)), (13, (.sipush 200, 3, 0, 0, 0, 0)), (16, (.if_icmp .ge 17, 3, 0, 0, 0, 0)), (19, (.aload_n 0, 1, 0, 0, 0, 0))]), (99999, [(20, (.invokevirtual 118, 3, 87, 0, 0, 828)), (23, (.pop, 1, 0, 0, 0, 0)), (24, (.iinc 2 1, 3, 0, 0, 0, 0)), (27, (.iinc 3 1, 3, 0, 0, 0, 0)), (30, (.goto (-26), 3, 0, 0, 0, 0)), (33, (.iload_n 2, 1, 0, 0, 0, 0)), (34, (.ireturn, 1, 0, 0, 0, 0))])]
def tb_87 : List (Nat × List (Nat × rvE)) := [(81, [(0, (.iconst 0, 1, 0, 0, 0, 0)), (1, (.istore_n 1, 1, 0, 0, 0, 0)), (2, (.iconst 0, 1, 0, 0, 0, 0)), (3, (.istore_n 2, 1, 0, 0, 0, 0)), (4, (.iload_n 2, 1, 0, 0, 0, 0)), (5, (.aload_n 0, 1, 0, 0, 0, 0)), (6, (.getfield 27, 3, 2, 0, 0, 480)), (9, (.getfield 62, 3, 10, 0, 1, 436)), (12, (.iconst 3, 1, 0, 0, 0, 0)), (13, (.iaload, 1, 0, 0, 0, 0)), (14, (.if_icmp .ge 66, 3, 0, 0, 0, 0)), (80, (.aload_n 0, 1, 0, 0, 0, 0))]), (101, [(81, (.dup, 1, 0, 0, 0, 0)), (82, (.getfield 41, 3, 2, 4, 0, 498)), (85, (.iload_n 1, 1, 0, 0, 0, 0)), (86, (.iadd, 1, 0, 0, 0, 0)), (87, (.putfield 41, 3, 2, 4, 0, 498)), (90, (.aload_n 0, 1, 0, 0, 0, 0)), (91, (.dup, 1, 0, 0, 0, 0)), (92, (.getfield 35, 3, 2, 2, 0, 493)), (95, (.iconst 1, 1, 0, 0, 0, 0)), (96, (.iadd, 1, 0, 0, 0, 0)), (97, (.putfield 35, 3, 2, 2, 0, 493)), (100, (.iload_n 1, 1, 0, 0, 0, 0))]), (99999, [(101, (.ireturn, 1, 0, 0, 0, 0))])]
def tb_88 : List (Nat × List (Nat × rvE)) := [(27, [(0, (.aload_n 0, 1, 0, 0, 0, 0)), (1, (.getfield 20, 3, 3, 1, 0, 547)), (4, (.bipush 8, 2, 0, 0, 0, 0)), (6, (.if_icmp .ne 7, 3, 0, 0, 0, 0)), (13, (.aload_n 0, 1, 0, 0, 0, 0)), (14, (.getfield 11, 3, 3, 0, 1, 546)), (17, (.aload_n 0, 1, 0, 0, 0, 0)), (18, (.getfield 20, 3, 3, 1, 0, 547)), (21, (.aaload, 1, 0, 0, 0, 0)), (22, (.aload_n 1, 1, 0, 0, 0, 0)), (23, (.invokevirtual 27, 3, 38, 1, 0, 876)), (26, (.aload_n 0, 1, 0, 0, 0, 0))]), (99999, [(27, (.dup, 1, 0, 0, 0, 0)), (28, (.getfield 20, 3, 3, 1, 0, 547)), (31, (.iconst 1, 1, 0, 0, 0, 0)), (32, (.iadd, 1, 0, 0, 0, 0)), (33, (.putfield 20, 3, 3, 1, 0, 547)), (36, (.return_, 1, 0, 0, 0, 0))])]
def tb_89 : List (Nat × List (Nat × rvE)) := [(59, [(0, (.aload_n 0, 1, 0, 0, 0, 0)), (1, (.getfield 249, 3, 12, 23, 0, 1458)), (4, (.bipush 8, 2, 0, 0, 0, 0)), (6, (.if_icmp .ne 39, 3, 0, 0, 0, 0)), (45, (.iconst 0, 1, 0, 0, 0, 0)), (46, (.istore_n 1, 1, 0, 0, 0, 0)), (47, (.iload_n 1, 1, 0, 0, 0, 0)), (48, (.bipush 24, 2, 0, 0, 0, 0)), (50, (.if_icmp .ge 32, 3, 0, 0, 0, 0)), (53, (.aload_n 0, 1, 0, 0, 0, 0)), (54, (.getfield 53, 3, 12, 21, 1, 1456)), (57, (.bipush 24, 2, 0, 0, 0, 0))]), (76, [(59, (.aload_n 0, 1, 0, 0, 0, 0)), (60, (.getfield 249, 3, 12, 23, 0, 1458)), (63, (.imul, 1, 0, 0, 0, 0)), (64, (.iload_n 1, 1, 0, 0, 0, 0)), (65, (.iadd, 1, 0, 0, 0, 0)), (66, (.aload_n 0, 1, 0, 0, 0, 0)), (67, (.getfield 33, 3, 12, 6, 1, 1441)), (70, (.bipush 91, 2, 0, 0, 0, 0)), (72, (.iload_n 1, 1, 0, 0, 0, 0)), (73, (.iadd, 1, 0, 0, 0, 0)), (74, (.iaload, 1, 0, 0, 0, 0)), (75, (.iastore, 1, 0, 0, 0, 0))]), (99999, [(76, (.iinc 1 1, 3, 0, 0, 0, 0)), (79, (.goto (-32), 3, 0, 0, 0, 0)), (82, (.aload_n 0, 1, 0, 0, 0, 0)), (83, (.dup, 1, 0, 0, 0, 0)), (84, (.getfield 249, 3, 12, 23, 0, 1458)), (87, (.iconst 1, 1, 0, 0, 0, 0)), (88, (.iadd, 1, 0, 0, 0, 0)), (89, (.putfield 249, 3, 12, 23, 0, 1458)), (92, (.return_, 1, 0, 0, 0, 0))])]
def tb_90 : List (Nat × List (Nat × rvE)) := [(21, [(0, (.iconst 0, 1, 0, 0, 0, 0)), (1, (.istore_n 2, 1, 0, 0, 0, 0)), (2, (.iload_n 2, 1, 0, 0, 0, 0)), (3, (.iload_n 1, 1, 0, 0, 0, 0)), (4, (.if_icmp .ge 26, 3, 0, 0, 0, 0)), (7, (.aload_n 0, 1, 0, 0, 0, 0)), (8, (.getfield 33, 3, 12, 6, 1, 1441)), (11, (.bipush 91, 2, 0, 0, 0, 0)), (13, (.iaload, 1, 0, 0, 0, 0)), (14, (.sipush 200, 3, 0, 0, 0, 0)), (17, (.if_icmp .ge 13, 3, 0, 0, 0, 0)), (20, (.aload_n 0, 1, 0, 0, 0, 0))]), (99999, [(21, (.invokevirtual 306, 3, 91, 0, 0, 1846)), (24, (.iinc 2 1, 3, 0, 0, 0, 0)), (27, (.goto (-25), 3, 0, 0, 0, 0)), (30, (.iload_n 2, 1, 0, 0, 0, 0)), (31, (.ireturn, 1, 0, 0, 0, 0))])]
def tb_91 : List (Nat × List (Nat × rvE)) := [(30, [(0, (.aload_n 0, 1, 0, 0, 0, 0)), (1, (.invokevirtual 288, 3, 54, 0, 0, 1736)), (4, (.iconst 0, 1, 0, 0, 0, 0)), (5, (.istore_n 1, 1, 0, 0, 0, 0)), (6, (.iload_n 1, 1, 0, 0, 0, 0)), (7, (.aload_n 0, 1, 0, 0, 0, 0)), (8, (.getfield 33, 3, 12, 6, 1, 1441)), (11, (.iconst 3, 1, 0, 0, 0, 0)), (12, (.iaload, 1, 0, 0, 0, 0)), (13, (.if_icmp .ge 15, 3, 0, 0, 0, 0)), (28, (.iconst 0, 1, 0, 0, 0, 0)), (29, (.istore_n 1, 1, 0, 0, 0, 0))]), (100, [(30, (.iload_n 1, 1, 0, 0, 0, 0)), (31, (.aload_n 0, 1, 0, 0, 0, 0)), (32, (.getfield 33, 3, 12, 6, 1, 1441)), (35, (.iconst 3, 1, 0, 0, 0, 0)), (36, (.iaload, 1, 0, 0, 0, 0)), (37, (.if_icmp .ge 54, 3, 0, 0, 0, 0)), (91, (.aload_n 0, 1, 0, 0, 0, 0)), (92, (.getfield 33, 3, 12, 6, 1, 1441)), (95, (.bipush 91, 2, 0, 0, 0, 0)), (97, (.dup2, 1, 0, 0, 0, 0)), (98, (.iaload, 1, 0, 0, 0, 0)), (99, (.iconst 1, 1, 0, 0, 0, 0))]), (99999, [(100, (.iadd, 1, 0, 0, 0, 0)), (101, (.iastore, 1, 0, 0, 0, 0)), (102, (.return_, 1, 0, 0, 0, 0))])]
def tb_92 : List (Nat × List (Nat × rvE)) := [(99999, [(0, (.aload_n 0, 1, 0, 0, 0, 0)), (1, (.getfield 92, 3, 11, 3, 1, 556)), (4, (.aload_n 0, 1, 0, 0, 0, 0)), (5, (.getfield 82, 3, 11, 1, 1, 554)), (8, (.invokevirtual 270, 3, 93, 1, 0, 1140)), (11, (.ireturn, 1, 0, 0, 0, 0))])]
def tb_93 : List (Nat × List (Nat × rvE)) := [(99999, [(0, (.aload_n 0, 1, 0, 0, 0, 0)), (1, (.getfield 20, 3, 3, 1, 0, 547)), (4, (.ifCond .ne 5, 3, 0, 0, 0, 0)), (7, (.iconst (-1), 1, 0, 0, 0, 0)), (8, (.ireturn, 1, 0, 0, 0, 0))])]
def tb_94 : List (Nat × List (Nat × rvE)) := [(99999, [(0, (.aload_n 0, 1, 0, 0, 0, 0)), (1, (.iconst 0, 1, 0, 0, 0, 0)), (2, (.putfield 1, 3, 12, 0, 0, 1435)), (5, (.aload_n 0, 1, 0, 0, 0, 0)), (6, (.getfield 249, 3, 12, 23, 0, 1458)), (9, (.ifCond .ne 5, 3, 0, 0, 0, 0)), (12, (.iconst (-1), 1, 0, 0, 0, 0)), (13, (.ireturn, 1, 0, 0, 0, 0))])]
def tb_95 : List (Nat × List (Nat × rvE)) := [(99999, [(0, (.aload_n 0, 1, 0, 0, 0, 0)), (1, (.iload_n 1, 1, 0, 0, 0, 0)), (2, (.invokevirtual 203, 3, 59, 1, 0, 990)), (5, (.ifCond .eq 18, 3, 0, 0, 0, 0)), (23, (.iconst (-1), 1, 0, 0, 0, 0)), (24, (.ireturn, 1, 0, 0, 0, 0))])]
def tb_96 : List (Nat × List (Nat × rvE)) := [(99999, [(0, (.aload_n 0, 1, 0, 0, 0, 0)), (1, (.iconst 0, 1, 0, 0, 0, 0)), (2, (.putfield 1, 3, 12, 0, 0, 1435)), (5, (.aload_n 0, 1, 0, 0, 0, 0)), (6, (.iload_n 1, 1, 0, 0, 0, 0)), (7, (.invokevirtual 285, 3, 60, 1, 0, 1728)), (10, (.ifCond .ne 5, 3, 0, 0, 0, 0)), (13, (.iconst (-1), 1, 0, 0, 0, 0)), (14, (.ireturn, 1, 0, 0, 0, 0))])]
def tb_97 : List (Nat × List (Nat × rvE)) := [(99999, [(0, (.aload_n 0, 1, 0, 0, 0, 0)), (1, (.getfield 58, 3, 11, 10, 1, 563)), (4, (.getfield 276, 3, 5, 0, 0, 353)), (7, (.ireturn, 1, 0, 0, 0, 0))])]
def tb_98 : List (Nat × List (Nat × rvE)) := [(99999, [(0, (.aload_n 0, 1, 0, 0, 0, 0)), (1, (.iconst 0, 1, 0, 0, 0, 0)), (2, (.putfield 1, 3, 12, 0, 0, 1435)), (5, (.aload_n 0, 1, 0, 0, 0, 0)), (6, (.getfield 346, 3, 12, 26, 0, 1461)), (9, (.ifCond .eq 10, 3, 0, 0, 0, 0)), (19, (.iconst (-1), 1, 0, 0, 0, 0)), (20, (.ireturn, 1, 0, 0, 0, 0))])]
def tb_99 : List (Nat × List (Nat × rvE)) := [(99999, [(0, (.aload_n 0, 1, 0, 0, 0, 0)), (1, (.getfield 58, 3, 11, 10, 1, 563)), (4, (.getfield 279, 3, 5, 1, 0, 355)), (7, (.ireturn, 1, 0, 0, 0, 0))])]
def tb_100 : List (Nat × List (Nat × rvE)) := [(99999, [(0, (.aload_n 0, 1, 0, 0, 0, 0)), (1, (.iconst 0, 1, 0, 0, 0, 0)), (2, (.putfield 1, 3, 12, 0, 0, 1435)), (5, (.aload_n 0, 1, 0, 0, 0, 0)), (6, (.getfield 346, 3, 12, 26, 0, 1461)), (9, (.ifCond .eq 10, 3, 0, 0, 0, 0)), (19, (.iconst (-1), 1, 0, 0, 0, 0)), (20, (.ireturn, 1, 0, 0, 0, 0))])]
def tb_101 : List (Nat × List (Nat × rvE)) := [(99999, [(0, (.aload_n 0, 1, 0, 0, 0, 0)), (1, (.iload_n 1, 1, 0, 0, 0, 0)), (2, (.invokevirtual 203, 3, 59, 1, 0, 990)), (5, (.ifCond .eq 18, 3, 0, 0, 0, 0)), (23, (.iconst (-1), 1, 0, 0, 0, 0)), (24, (.ireturn, 1, 0, 0, 0, 0))])]
def tb_102 : List (Nat × List (Nat × rvE)) := [(99999, [(0, (.aload_n 0, 1, 0, 0, 0, 0)), (1, (.iconst 0, 1, 0, 0, 0, 0)), (2, (.putfield 1, 3, 12, 0, 0, 1435)), (5, (.aload_n 0, 1, 0, 0, 0, 0)), (6, (.iload_n 1, 1, 0, 0, 0, 0)), (7, (.invokevirtual 285, 3, 60, 1, 0, 1728)), (10, (.ifCond .ne 5, 3, 0, 0, 0, 0)), (13, (.iconst (-1), 1, 0, 0, 0, 0)), (14, (.ireturn, 1, 0, 0, 0, 0))])]
def tb_103 : List (Nat × List (Nat × rvE)) := [(99999, [(0, (.aload_n 0, 1, 0, 0, 0, 0)), (1, (.getfield 58, 3, 11, 10, 1, 563)), (4, (.getfield 285, 3, 5, 2, 0, 357)), (7, (.ireturn, 1, 0, 0, 0, 0))])]
def tb_104 : List (Nat × List (Nat × rvE)) := [(99999, [(0, (.aload_n 0, 1, 0, 0, 0, 0)), (1, (.iconst 0, 1, 0, 0, 0, 0)), (2, (.putfield 1, 3, 12, 0, 0, 1435)), (5, (.aload_n 0, 1, 0, 0, 0, 0)), (6, (.getfield 353, 3, 12, 30, 0, 1465)), (9, (.ifCond .eq 10, 3, 0, 0, 0, 0)), (19, (.iconst (-1), 1, 0, 0, 0, 0)), (20, (.ireturn, 1, 0, 0, 0, 0))])]
def tb_105 : List (Nat × List (Nat × rvE)) := [(99999, [(0, (.aload_n 0, 1, 0, 0, 0, 0)), (1, (.iload_n 1, 1, 0, 0, 0, 0)), (2, (.invokevirtual 203, 3, 59, 1, 0, 990)), (5, (.ifCond .eq 18, 3, 0, 0, 0, 0)), (23, (.iconst (-1), 1, 0, 0, 0, 0)), (24, (.ireturn, 1, 0, 0, 0, 0))])]
def tb_106 : List (Nat × List (Nat × rvE)) := [(99999, [(0, (.aload_n 0, 1, 0, 0, 0, 0)), (1, (.iconst 0, 1, 0, 0, 0, 0)), (2, (.putfield 1, 3, 12, 0, 0, 1435)), (5, (.aload_n 0, 1, 0, 0, 0, 0)), (6, (.iload_n 1, 1, 0, 0, 0, 0)), (7, (.invokevirtual 285, 3, 60, 1, 0, 1728)), (10, (.ifCond .ne 5, 3, 0, 0, 0, 0)), (13, (.iconst (-1), 1, 0, 0, 0, 0)), (14, (.ireturn, 1, 0, 0, 0, 0))])]
def tb_107 : List (Nat × List (Nat × rvE)) := [(99999, [(0, (.aload_n 0, 1, 0, 0, 0, 0)), (1, (.getfield 58, 3, 11, 10, 1, 563)), (4, (.getfield 291, 3, 5, 3, 0, 359)), (7, (.ireturn, 1, 0, 0, 0, 0))])]
def tb_108 : List (Nat × List (Nat × rvE)) := [(99999, [(0, (.aload_n 0, 1, 0, 0, 0, 0)), (1, (.iconst 0, 1, 0, 0, 0, 0)), (2, (.putfield 1, 3, 12, 0, 0, 1435)), (5, (.aload_n 0, 1, 0, 0, 0, 0)), (6, (.getfield 359, 3, 12, 31, 0, 1466)), (9, (.ifCond .eq 10, 3, 0, 0, 0, 0)), (19, (.iconst (-1), 1, 0, 0, 0, 0)), (20, (.ireturn, 1, 0, 0, 0, 0))])]
def tb_109 : List (Nat × List (Nat × rvE)) := [(99999, [(0, (.aload_n 0, 1, 0, 0, 0, 0)), (1, (.iload_n 1, 1, 0, 0, 0, 0)), (2, (.invokevirtual 169, 3, 47, 1, 0, 986)), (5, (.ifCond .eq 17, 3, 0, 0, 0, 0)), (22, (.iconst (-1), 1, 0, 0, 0, 0)), (23, (.ireturn, 1, 0, 0, 0, 0))])]
def tb_110 : List (Nat × List (Nat × rvE)) := [(99999, [(0, (.aload_n 0, 1, 0, 0, 0, 0)), (1, (.iconst 0, 1, 0, 0, 0, 0)), (2, (.putfield 1, 3, 12, 0, 0, 1435)), (5, (.aload_n 0, 1, 0, 0, 0, 0)), (6, (.iload_n 1, 1, 0, 0, 0, 0)), (7, (.invokevirtual 272, 3, 49, 1, 0, 1704)), (10, (.ifCond .eq 11, 3, 0, 0, 0, 0)), (21, (.iconst (-1), 1, 0, 0, 0, 0)), (22, (.ireturn, 1, 0, 0, 0, 0))])]
def tb_111 : List (Nat × List (Nat × rvE)) := [(99999, [(0, (.aload_n 0, 1, 0, 0, 0, 0)), (1, (.iload_n 1, 1, 0, 0, 0, 0)), (2, (.invokevirtual 203, 3, 59, 1, 0, 990)), (5, (.ifCond .eq 32, 3, 0, 0, 0, 0)), (37, (.iconst (-1), 1, 0, 0, 0, 0)), (38, (.ireturn, 1, 0, 0, 0, 0))])]
def tb_112 : List (Nat × List (Nat × rvE)) := [(99999, [(0, (.aload_n 0, 1, 0, 0, 0, 0)), (1, (.iconst 0, 1, 0, 0, 0, 0)), (2, (.putfield 1, 3, 12, 0, 0, 1435)), (5, (.aload_n 0, 1, 0, 0, 0, 0)), (6, (.iload_n 1, 1, 0, 0, 0, 0)), (7, (.invokevirtual 285, 3, 60, 1, 0, 1728)), (10, (.ifCond .eq 16, 3, 0, 0, 0, 0)), (26, (.iconst (-1), 1, 0, 0, 0, 0)), (27, (.ireturn, 1, 0, 0, 0, 0))])]
def tb_113 : List (Nat × List (Nat × rvE)) := [(99999, [(0, (.aload_n 0, 1, 0, 0, 0, 0)), (1, (.iload_n 1, 1, 0, 0, 0, 0)), (2, (.invokevirtual 169, 3, 47, 1, 0, 986)), (5, (.ifCond .eq 21, 3, 0, 0, 0, 0)), (26, (.iconst (-1), 1, 0, 0, 0, 0)), (27, (.ireturn, 1, 0, 0, 0, 0))])]
def tb_114 : List (Nat × List (Nat × rvE)) := [(99999, [(0, (.aload_n 0, 1, 0, 0, 0, 0)), (1, (.iconst 0, 1, 0, 0, 0, 0)), (2, (.putfield 1, 3, 12, 0, 0, 1435)), (5, (.aload_n 0, 1, 0, 0, 0, 0)), (6, (.iload_n 1, 1, 0, 0, 0, 0)), (7, (.invokevirtual 272, 3, 49, 1, 0, 1704)), (10, (.ifCond .eq 33, 3, 0, 0, 0, 0)), (43, (.iconst (-1), 1, 0, 0, 0, 0)), (44, (.ireturn, 1, 0, 0, 0, 0))])]
def tb_115 : List (Nat × List (Nat × rvE)) := [(24, [(0, (.aload_n 0, 1, 0, 0, 0, 0)), (1, (.getfield 65, 3, 11, 11, 1, 564)), (4, (.aload_n 0, 1, 0, 0, 0, 0)), (5, (.getfield 82, 3, 11, 1, 1, 554)), (8, (.aload_n 0, 1, 0, 0, 0, 0)), (9, (.getfield 12, 3, 11, 0, 1, 553)), (12, (.invokevirtual 305, 3, 116, 2, 0, 1253)), (15, (.istore_n 1, 1, 0, 0, 0, 0)), (16, (.aload_n 0, 1, 0, 0, 0, 0)), (17, (.getfield 12, 3, 11, 0, 1, 553)), (20, (.iconst 0, 1, 0, 0, 0, 0)), (21, (.putfield 96, 3, 9, 2, 0, 214))]), (99999, [(24, (.iload_n 1, 1, 0, 0, 0, 0)), (25, (.ireturn, 1, 0, 0, 0, 0))])]
def tb_116 : List (Nat × List (Nat × rvE)) := [(99999, [(0, (.aload_n 1, 1, 0, 0, 0, 0)), (1, (.getfield 25, 3, 2, 0, 0, 481)), (4, (.aload_n 2, 1, 0, 0, 0, 0)), (5, (.invokestatic 31, 3, 117, 2, 0, 1257)), (8, (.ifCond .ne 5, 3, 0, 0, 0, 0)), (11, (.iconst (-1), 1, 0, 0, 0, 0)), (12, (.ireturn, 1, 0, 0, 0, 0))])]
def tb_117 : List (Nat × List (Nat × rvE)) := [(23, [(0, (.aload_n 1, 1, 0, 0, 0, 0)), (1, (.getfield 57, 3, 9, 2, 0, 216)), (4, (.iconst 2, 1, 0, 0, 0, 0)), (5, (.irem, 1, 0, 0, 0, 0)), (6, (.ifCond .ne 16, 3, 0, 0, 0, 0)), (9, (.aload_n 1, 1, 0, 0, 0, 0)), (10, (.getfield 57, 3, 9, 2, 0, 216)), (13, (.iconst 2, 1, 0, 0, 0, 0)), (14, (.bipush 16, 2, 0, 0, 0, 0)), (16, (.invokestatic 62, 3, 84, 3, 1, 1260)), (19, (.ifCond .ne 5, 3, 0, 0, 0, 0)), (22, (.iconst 0, 1, 0, 0, 0, 0))]), (99999, [(23, (.ireturn, 1, 0, 0, 0, 0))])]
def tb_118 : List (Nat × List (Nat × rvE)) := [(35, [(0, (.aload_n 0, 1, 0, 0, 0, 0)), (1, (.iconst 0, 1, 0, 0, 0, 0)), (2, (.putfield 1, 3, 12, 0, 0, 1435)), (5, (.aload_n 0, 1, 0, 0, 0, 0)), (6, (.sipush 940, 3, 0, 0, 0, 0)), (9, (.invokevirtual 237, 3, 41, 1, 0, 1605)), (12, (.aload_n 0, 1, 0, 0, 0, 0)), (13, (.getfield 18, 3, 12, 3, 0, 1438)), (16, (.iconst 2, 1, 0, 0, 0, 0)), (17, (.bipush 16, 2, 0, 0, 0, 0)), (19, (.invokestatic 184, 3, 50, 3, 0, 1671)), (22, (.ifCond .eq 13, 3, 0, 0, 0, 0))]), (99999, [(35, (.iconst (-1), 1, 0, 0, 0, 0)), (36, (.ireturn, 1, 0, 0, 0, 0))])]
def tb_119 : List (Nat × List (Nat × rvE)) := [(99999, [(0, (.aload_n 0, 1, 0, 0, 0, 0)), (1, (.getfield 65, 3, 11, 11, 1, 564)), (4, (.getfield 309, 3, 8, 0, 0, 394)), (7, (.ireturn, 1, 0, 0, 0, 0))])]
def tb_120 : List (Nat × List (Nat × rvE)) := [(99999, [(0, (.aload_n 0, 1, 0, 0, 0, 0)), (1, (.iconst 0, 1, 0, 0, 0, 0)), (2, (.putfield 1, 3, 12, 0, 0, 1435)), (5, (.aload_n 0, 1, 0, 0, 0, 0)), (6, (.getfield 379, 3, 12, 38, 0, 1473)), (9, (.ifCond .eq 10, 3, 0, 0, 0, 0)), (19, (.iconst (-1), 1, 0, 0, 0, 0)), (20, (.ireturn, 1, 0, 0, 0, 0))])]
def tb_121 : List (Nat × List (Nat × rvE)) := [(99999, [(0, (.aload_n 0, 1, 0, 0, 0, 0)), (1, (.getfield 65, 3, 11, 11, 1, 564)), (4, (.getfield 312, 3, 8, 1, 0, 396)), (7, (.ireturn, 1, 0, 0, 0, 0))])]
def tb_122 : List (Nat × List (Nat × rvE)) := [(99999, [(0, (.aload_n 0, 1, 0, 0, 0, 0)), (1, (.iconst 0, 1, 0, 0, 0, 0)), (2, (.putfield 1, 3, 12, 0, 0, 1435)), (5, (.aload_n 0, 1, 0, 0, 0, 0)), (6, (.getfield 379, 3, 12, 38, 0, 1473)), (9, (.ifCond .eq 10, 3, 0, 0, 0, 0)), (19, (.iconst (-1), 1, 0, 0, 0, 0)), (20, (.ireturn, 1, 0, 0, 0, 0))])]
def tb_123 : List (Nat × List (Nat × rvE)) := [(99999, [(0, (.aload_n 0, 1, 0, 0, 0, 0)), (1, (.iload_n 1, 1, 0, 0, 0, 0)), (2, (.invokevirtual 315, 3, 124, 1, 0, 1292)), (5, (.ifCond .eq 23, 3, 0, 0, 0, 0)), (28, (.iconst (-1), 1, 0, 0, 0, 0)), (29, (.ireturn, 1, 0, 0, 0, 0))])]
def tb_124 : List (Nat × List (Nat × rvE)) := [(99999, [(0, (.iload_n 1, 1, 0, 0, 0, 0)), (1, (.ifCond .lt 23, 3, 0, 0, 0, 0)), (4, (.iload_n 1, 1, 0, 0, 0, 0)), (5, (.aload_n 0, 1, 0, 0, 0, 0)), (6, (.getfield 82, 3, 11, 1, 1, 554)), (9, (.getfield 128, 3, 2, 0, 0, 485)), (12, (.getfield 161, 3, 10, 0, 1, 438)), (15, (.iconst 1, 1, 0, 0, 0, 0)), (16, (.iaload, 1, 0, 0, 0, 0)), (17, (.if_icmp .ge 7, 3, 0, 0, 0, 0)), (24, (.iconst 0, 1, 0, 0, 0, 0)), (25, (.ireturn, 1, 0, 0, 0, 0))])]
def tb_125 : List (Nat × List (Nat × rvE)) := [(99999, [(0, (.aload_n 0, 1, 0, 0, 0, 0)), (1, (.iconst 0, 1, 0, 0, 0, 0)), (2, (.putfield 1, 3, 12, 0, 0, 1435)), (5, (.aload_n 0, 1, 0, 0, 0, 0)), (6, (.iload_n 1, 1, 0, 0, 0, 0)), (7, (.invokevirtual 391, 3, 126, 1, 0, 1951)), (10, (.ifCond .eq 11, 3, 0, 0, 0, 0)), (21, (.iconst (-1), 1, 0, 0, 0, 0)), (22, (.ireturn, 1, 0, 0, 0, 0))])]
def tb_126 : List (Nat × List (Nat × rvE)) := [(99999, [(0, (.iload_n 1, 1, 0, 0, 0, 0)), (1, (.iconst 0, 1, 0, 0, 0, 0)), (2, (.aload_n 0, 1, 0, 0, 0, 0)), (3, (.getfield 33, 3, 12, 6, 1, 1441)), (6, (.iconst 1, 1, 0, 0, 0, 0)), (7, (.iaload, 1, 0, 0, 0, 0)), (8, (.iconst 1, 1, 0, 0, 0, 0)), (9, (.isub, 1, 0, 0, 0, 0)), (10, (.invokestatic 184, 3, 50, 3, 0, 1671)), (13, (.ireturn, 1, 0, 0, 0, 0))])]
def tb_127 : List (Nat × List (Nat × rvE)) := [(23, [(0, (.aload_n 0, 1, 0, 0, 0, 0)), (1, (.getfield 86, 3, 11, 2, 1, 555)), (4, (.aload_n 0, 1, 0, 0, 0, 0)), (5, (.getfield 82, 3, 11, 1, 1, 554)), (8, (.invokevirtual 117, 3, 38, 1, 0, 773)), (11, (.iconst 0, 1, 0, 0, 0, 0)), (12, (.istore_n 1, 1, 0, 0, 0, 0)), (13, (.iload_n 1, 1, 0, 0, 0, 0)), (14, (.bipush 60, 2, 0, 0, 0, 0)), (16, (.if_icmp .ge 42, 3, 0, 0, 0, 0)), (19, (.aload_n 0, 1, 0, 0, 0, 0)), (20, (.getfield 86, 3, 11, 2, 1, 555))]), (51, [(23, (.getfield 228, 3, 2, 2, 0, 495)), (26, (.sipush 200, 3, 0, 0, 0, 0)), (29, (.if_icmp .ge 29, 3, 0, 0, 0, 0)), (32, (.aload_n 0, 1, 0, 0, 0, 0)), (33, (.getfield 86, 3, 11, 2, 1, 555)), (36, (.invokevirtual 321, 3, 87, 0, 0, 1304)), (39, (.ifCond .ne 13, 3, 0, 0, 0, 0)), (42, (.aload_n 0, 1, 0, 0, 0, 0)), (43, (.getfield 86, 3, 11, 2, 1, 555)), (46, (.getfield 228, 3, 2, 2, 0, 495)), (49, (.iconst 1, 1, 0, 0, 0, 0)), (50, (.isub, 1, 0, 0, 0, 0))]), (99999, [(51, (.ireturn, 1, 0, 0, 0, 0))])]
def tb_128 : List (Nat × List (Nat × rvE)) := [(19, [(0, (.aload_n 0, 1, 0, 0, 0, 0)), (1, (.iconst 0, 1, 0, 0, 0, 0)), (2, (.putfield 1, 3, 12, 0, 0, 1435)), (5, (.aload_n 0, 1, 0, 0, 0, 0)), (6, (.invokevirtual 394, 3, 129, 0, 0, 1959)), (9, (.iconst (-1), 1, 0, 0, 0, 0)), (10, (.istore_n 1, 1, 0, 0, 0, 0)), (11, (.iconst 0, 1, 0, 0, 0, 0)), (12, (.istore_n 2, 1, 0, 0, 0, 0)), (13, (.iload_n 2, 1, 0, 0, 0, 0)), (14, (.bipush 60, 2, 0, 0, 0, 0)), (16, (.if_icmp .ge 59, 3, 0, 0, 0, 0))]), (43, [(19, (.iload_n 1, 1, 0, 0, 0, 0)), (20, (.ifCond .ge 55, 3, 0, 0, 0, 0)), (23, (.aload_n 0, 1, 0, 0, 0, 0)), (24, (.getfield 33, 3, 12, 6, 1, 1441)), (27, (.bipush 91, 2, 0, 0, 0, 0)), (29, (.iaload, 1, 0, 0, 0, 0)), (30, (.sipush 200, 3, 0, 0, 0, 0)), (33, (.if_icmp .ge 42, 3, 0, 0, 0, 0)), (36, (.aload_n 0, 1, 0, 0, 0, 0)), (37, (.getfield 33, 3, 12, 6, 1, 1441)), (40, (.bipush 94, 2, 0, 0, 0, 0)), (42, (.iaload, 1, 0, 0, 0, 0))]), (65, [(43, (.istore_n 3, 1, 0, 0, 0, 0)), (44, (.aload_n 0, 1, 0, 0, 0, 0)), (45, (.invokevirtual 306, 3, 91, 0, 0, 1846)), (48, (.aload_n 0, 1, 0, 0, 0, 0)), (49, (.getfield 33, 3, 12, 6, 1, 1441)), (52, (.bipush 94, 2, 0, 0, 0, 0)), (54, (.iaload, 1, 0, 0, 0, 0)), (55, (.iload_n 3, 1, 0, 0, 0, 0)), (56, (.if_icmp .ne 13, 3, 0, 0, 0, 0)), (59, (.aload_n 0, 1, 0, 0, 0, 0)), (60, (.getfield 33, 3, 12, 6, 1, 1441)), (63, (.bipush 91, 2, 0, 0, 0, 0))]), (99999, [(65, (.iaload, 1, 0, 0, 0, 0)), (66, (.iconst 1, 1, 0, 0, 0, 0)), (67, (.isub, 1, 0, 0, 0, 0)), (68, (.istore_n 1, 1, 0, 0, 0, 0)), (69, (.iinc 2 1, 3, 0, 0, 0, 0)), (72, (.goto (-59), 3, 0, 0, 0, 0)), (75, (.aload_n 0, 1, 0, 0, 0, 0)), (76, (.invokevirtual 397, 3, 130, 0, 0, 1963)), (79, (.iload_n 1, 1, 0, 0, 0, 0)), (80, (.ireturn, 1, 0, 0, 0, 0))])]
def tb_129 : List (Nat × List (Nat × rvE)) := [(20, [(0, (.iconst 0, 1, 0, 0, 0, 0)), (1, (.istore_n 1, 1, 0, 0, 0, 0)), (2, (.iload_n 1, 1, 0, 0, 0, 0)), (3, (.bipush 24, 2, 0, 0, 0, 0)), (5, (.if_icmp .ge 24, 3, 0, 0, 0, 0)), (8, (.aload_n 0, 1, 0, 0, 0, 0)), (9, (.getfield 56, 3, 12, 22, 1, 1457)), (12, (.iload_n 1, 1, 0, 0, 0, 0)), (13, (.aload_n 0, 1, 0, 0, 0, 0)), (14, (.getfield 33, 3, 12, 6, 1, 1441)), (17, (.bipush 91, 2, 0, 0, 0, 0)), (19, (.iload_n 1, 1, 0, 0, 0, 0))]), (99999, [(20, (.iadd, 1, 0, 0, 0, 0)), (21, (.iaload, 1, 0, 0, 0, 0)), (22, (.iastore, 1, 0, 0, 0, 0)), (23, (.iinc 1 1, 3, 0, 0, 0, 0)), (26, (.goto (-24), 3, 0, 0, 0, 0)), (29, (.return_, 1, 0, 0, 0, 0))])]
def tb_130 : List (Nat × List (Nat × rvE)) := [(20, [(0, (.iconst 0, 1, 0, 0, 0, 0)), (1, (.istore_n 1, 1, 0, 0, 0, 0)), (2, (.iload_n 1, 1, 0, 0, 0, 0)), (3, (.bipush 24, 2, 0, 0, 0, 0)), (5, (.if_icmp .ge 24, 3, 0, 0, 0, 0)), (8, (.aload_n 0, 1, 0, 0, 0, 0)), (9, (.getfield 33, 3, 12, 6, 1, 1441)), (12, (.bipush 91, 2, 0, 0, 0, 0)), (14, (.iload_n 1, 1, 0, 0, 0, 0)), (15, (.iadd, 1, 0, 0, 0, 0)), (16, (.aload_n 0, 1, 0, 0, 0, 0)), (17, (.getfield 56, 3, 12, 22, 1, 1457))]), (99999, [(20, (.iload_n 1, 1, 0, 0, 0, 0)), (21, (.iaload, 1, 0, 0, 0, 0)), (22, (.iastore, 1, 0, 0, 0, 0)), (23, (.iinc 1 1, 3, 0, 0, 0, 0)), (26, (.goto (-24), 3, 0, 0, 0, 0)), (29, (.return_, 1, 0, 0, 0, 0))])]
def tb_131 : List (Nat × List (Nat × rvE)) := [(99999, [(0, (.aload_n 0, 1, 0, 0, 0, 0)), (1, (.iload_n 1, 1, 0, 0, 0, 0)), (2, (.invokevirtual 169, 3, 47, 1, 0, 986)), (5, (.ifCond .eq 18, 3, 0, 0, 0, 0)), (23, (.iconst (-1), 1, 0, 0, 0, 0)), (24, (.ireturn, 1, 0, 0, 0, 0))])]
def tb_132 : List (Nat × List (Nat × rvE)) := [(99999, [(0, (.aload_n 0, 1, 0, 0, 0, 0)), (1, (.iconst 0, 1, 0, 0, 0, 0)), (2, (.putfield 1, 3, 12, 0, 0, 1435)), (5, (.aload_n 0, 1, 0, 0, 0, 0)), (6, (.iload_n 1, 1, 0, 0, 0, 0)), (7, (.invokevirtual 272, 3, 49, 1, 0, 1704)), (10, (.ifCond .ne 5, 3, 0, 0, 0, 0)), (13, (.iconst (-1), 1, 0, 0, 0, 0)), (14, (.ireturn, 1, 0, 0, 0, 0))])]
def tb_133 : List (Nat × List (Nat × rvE)) := [(99999, [(0, (.iload_n 1, 1, 0, 0, 0, 0)), (1, (.ifCond .lt 26, 3, 0, 0, 0, 0)), (4, (.iload_n 1, 1, 0, 0, 0, 0)), (5, (.aload_n 0, 1, 0, 0, 0, 0)), (6, (.getfield 72, 3, 11, 12, 1, 565)), (9, (.getfield 247, 3, 4, 1, 0, 420)), (12, (.if_icmp .ge 15, 3, 0, 0, 0, 0)), (27, (.iconst (-1), 1, 0, 0, 0, 0)), (28, (.ireturn, 1, 0, 0, 0, 0))])]
def tb_134 : List (Nat × List (Nat × rvE)) := [(29, [(0, (.aload_n 0, 1, 0, 0, 0, 0)), (1, (.iconst 0, 1, 0, 0, 0, 0)), (2, (.putfield 1, 3, 12, 0, 0, 1435)), (5, (.iload_n 1, 1, 0, 0, 0, 0)), (6, (.iconst 0, 1, 0, 0, 0, 0)), (7, (.aload_n 0, 1, 0, 0, 0, 0)), (8, (.getfield 400, 3, 12, 40, 0, 1475)), (11, (.iconst 1, 1, 0, 0, 0, 0)), (12, (.isub, 1, 0, 0, 0, 0)), (13, (.invokestatic 184, 3, 50, 3, 0, 1671)), (16, (.ifCond .eq 12, 3, 0, 0, 0, 0)), (28, (.iconst (-1), 1, 0, 0, 0, 0))]), (99999, [(29, (.ireturn, 1, 0, 0, 0, 0))])]
def tb_135 : List (Nat × List (Nat × rvE)) := [(25, [(0, (.iload_n 1, 1, 0, 0, 0, 0)), (1, (.iconst 1, 1, 0, 0, 0, 0)), (2, (.bipush 60, 2, 0, 0, 0, 0)), (4, (.invokestatic 260, 3, 84, 3, 0, 1112)), (7, (.ifCond .eq 18, 3, 0, 0, 0, 0)), (10, (.aload_n 0, 1, 0, 0, 0, 0)), (11, (.getfield 82, 3, 11, 1, 1, 554)), (14, (.getfield 128, 3, 2, 0, 0, 485)), (17, (.getfield 161, 3, 10, 0, 1, 438)), (20, (.iconst 2, 1, 0, 0, 0, 0)), (21, (.iaload, 1, 0, 0, 0, 0)), (22, (.ifCond .ne 5, 3, 0, 0, 0, 0))]), (99999, [(25, (.iconst (-1), 1, 0, 0, 0, 0)), (26, (.ireturn, 1, 0, 0, 0, 0))])]
def tb_136 : List (Nat × List (Nat × rvE)) := [(21, [(0, (.aload_n 0, 1, 0, 0, 0, 0)), (1, (.iconst 0, 1, 0, 0, 0, 0)), (2, (.putfield 1, 3, 12, 0, 0, 1435)), (5, (.iload_n 1, 1, 0, 0, 0, 0)), (6, (.iconst 1, 1, 0, 0, 0, 0)), (7, (.bipush 60, 2, 0, 0, 0, 0)), (9, (.invokestatic 184, 3, 50, 3, 0, 1671)), (12, (.ifCond .eq 12, 3, 0, 0, 0, 0)), (15, (.aload_n 0, 1, 0, 0, 0, 0)), (16, (.getfield 33, 3, 12, 6, 1, 1441)), (19, (.iconst 2, 1, 0, 0, 0, 0)), (20, (.iaload, 1, 0, 0, 0, 0))]), (99999, [(21, (.ifCond .ne 5, 3, 0, 0, 0, 0)), (24, (.iconst (-1), 1, 0, 0, 0, 0)), (25, (.ireturn, 1, 0, 0, 0, 0))])]
def tb_137 : List (Nat × List (Nat × rvE)) := [(99999, [(0, (.aload_n 0, 1, 0, 0, 0, 0)), (1, (.iload_n 1, 1, 0, 0, 0, 0)), (2, (.invokevirtual 203, 3, 59, 1, 0, 990)), (5, (.ifCond .eq 28, 3, 0, 0, 0, 0)), (33, (.iconst (-1), 1, 0, 0, 0, 0)), (34, (.ireturn, 1, 0, 0, 0, 0))])]
def tb_138 : List (Nat × List (Nat × rvE)) := [(99999, [(0, (.aload_n 0, 1, 0, 0, 0, 0)), (1, (.iconst 0, 1, 0, 0, 0, 0)), (2, (.putfield 1, 3, 12, 0, 0, 1435)), (5, (.aload_n 0, 1, 0, 0, 0, 0)), (6, (.iload_n 1, 1, 0, 0, 0, 0)), (7, (.invokevirtual 285, 3, 60, 1, 0, 1728)), (10, (.ifCond .eq 22, 3, 0, 0, 0, 0)), (32, (.iconst (-1), 1, 0, 0, 0, 0)), (33, (.ireturn, 1, 0, 0, 0, 0))])]
def tb_139 : List (Nat × List (Nat × rvE)) := [(22, [(0, (.iload_n 1, 1, 0, 0, 0, 0)), (1, (.ifCond .eq 12, 3, 0, 0, 0, 0)), (4, (.iload_n 1, 1, 0, 0, 0, 0)), (5, (.iconst 1, 1, 0, 0, 0, 0)), (6, (.if_icmp .eq 7, 3, 0, 0, 0, 0)), (9, (.sipush (-1000), 3, 0, 0, 0, 0)), (12, (.ireturn, 1, 0, 0, 0, 0)), (13, (.aload_n 0, 1, 0, 0, 0, 0)), (14, (.getfield 51, 3, 11, 9, 1, 562)), (17, (.aload_n 0, 1, 0, 0, 0, 0)), (18, (.getfield 12, 3, 11, 0, 1, 553)), (21, (.aload_n 0, 1, 0, 0, 0, 0))]), (48, [(22, (.getfield 82, 3, 11, 1, 1, 554)), (25, (.getfield 128, 3, 2, 0, 0, 485)), (28, (.invokevirtual 132, 3, 141, 2, 0, 792)), (31, (.istore_n 2, 1, 0, 0, 0, 0)), (32, (.aload_n 0, 1, 0, 0, 0, 0)), (33, (.aload_n 0, 1, 0, 0, 0, 0)), (34, (.getfield 12, 3, 11, 0, 1, 553)), (37, (.getfield 108, 3, 9, 13, 0, 235)), (40, (.putfield 111, 3, 11, 14, 0, 567)), (43, (.aload_n 0, 1, 0, 0, 0, 0)), (44, (.getfield 12, 3, 11, 0, 1, 553)), (47, (.iconst 0, 1, 0, 0, 0, 0))]), (85, [(48, (.putfield 96, 3, 9, 2, 0, 214)), (51, (.iload_n 2, 1, 0, 0, 0, 0)), (52, (.ifCond .ne 14, 3, 0, 0, 0, 0)), (66, (.aload_n 0, 1, 0, 0, 0, 0)), (67, (.getfield 86, 3, 11, 2, 1, 555)), (70, (.aload_n 0, 1, 0, 0, 0, 0)), (71, (.getfield 82, 3, 11, 1, 1, 554)), (74, (.invokevirtual 117, 3, 38, 1, 0, 773)), (77, (.aload_n 0, 1, 0, 0, 0, 0)), (78, (.getfield 51, 3, 11, 9, 1, 562)), (81, (.aload_n 0, 1, 0, 0, 0, 0)), (82, (.getfield 86, 3, 11, 2, 1, 555))]), (109, [(85, (.invokevirtual 135, 3, 142, 1, 0, 816)), (88, (.istore_n 3, 1, 0, 0, 0, 0)), (89, (.iload_n 1, 1, 0, 0, 0, 0)), (90, (.iconst 1, 1, 0, 0, 0, 0)), (91, (.if_icmp .ne 25, 3, 0, 0, 0, 0)), (94, (.aload_n 0, 1, 0, 0, 0, 0)), (95, (.getfield 92, 3, 11, 3, 1, 556)), (98, (.aload_n 0, 1, 0, 0, 0, 0)), (99, (.getfield 82, 3, 11, 1, 1, 554)), (102, (.invokevirtual 138, 3, 88, 1, 0, 868)), (105, (.aload_n 0, 1, 0, 0, 0, 0)), (106, (.getfield 82, 3, 11, 1, 1, 554))]), (99999, [(109, (.aload_n 0, 1, 0, 0, 0, 0)), (110, (.getfield 86, 3, 11, 2, 1, 555)), (113, (.invokevirtual 117, 3, 38, 1, 0, 773)), (116, (.iload_n 3, 1, 0, 0, 0, 0)), (117, (.ireturn, 1, 0, 0, 0, 0))])]
def tb_140 : List (Nat × List (Nat × rvE)) := [(22, [(0, (.aload_n 0, 1, 0, 0, 0, 0)), (1, (.iconst 0, 1, 0, 0, 0, 0)), (2, (.putfield 1, 3, 12, 0, 0, 1435)), (5, (.iload_n 1, 1, 0, 0, 0, 0)), (6, (.iconst 0, 1, 0, 0, 0, 0)), (7, (.iconst 1, 1, 0, 0, 0, 0)), (8, (.invokestatic 184, 3, 50, 3, 0, 1671)), (11, (.ifCond .ne 7, 3, 0, 0, 0, 0)), (14, (.sipush (-1000), 3, 0, 0, 0, 0)), (17, (.ireturn, 1, 0, 0, 0, 0)), (18, (.aload_n 0, 1, 0, 0, 0, 0)), (19, (.sipush 400, 3, 0, 0, 0, 0))]), (83, [(22, (.invokevirtual 237, 3, 41, 1, 0, 1605)), (25, (.aload_n 0, 1, 0, 0, 0, 0)), (26, (.iconst 0, 1, 0, 0, 0, 0)), (27, (.putfield 169, 3, 12, 15, 0, 1450)), (30, (.aload_n 0, 1, 0, 0, 0, 0)), (31, (.iconst 0, 1, 0, 0, 0, 0)), (32, (.putfield 432, 3, 12, 42, 0, 1477)), (35, (.aload_n 0, 1, 0, 0, 0, 0)), (36, (.invokevirtual 181, 3, 42, 0, 0, 1609)), (39, (.aload_n 0, 1, 0, 0, 0, 0)), (40, (.getfield 152, 3, 12, 11, 0, 1446)), (43, (.ifCond .eq 40, 3, 0, 0, 0, 0))]), (101, [(83, (.aload_n 0, 1, 0, 0, 0, 0)), (84, (.invokevirtual 394, 3, 129, 0, 0, 1959)), (87, (.iconst 0, 1, 0, 0, 0, 0)), (88, (.istore_n 2, 1, 0, 0, 0, 0)), (89, (.iload_n 2, 1, 0, 0, 0, 0)), (90, (.iconst 4, 1, 0, 0, 0, 0)), (91, (.if_icmp .ge 16, 3, 0, 0, 0, 0)), (94, (.aload_n 0, 1, 0, 0, 0, 0)), (95, (.getfield 78, 3, 12, 43, 1, 1478)), (98, (.iload_n 2, 1, 0, 0, 0, 0)), (99, (.iconst 0, 1, 0, 0, 0, 0)), (100, (.iastore, 1, 0, 0, 0, 0))]), (195, [(101, (.iinc 2 1, 3, 0, 0, 0, 0)), (104, (.goto (-15), 3, 0, 0, 0, 0)), (107, (.iconst (-1), 1, 0, 0, 0, 0)), (108, (.istore_n 2, 1, 0, 0, 0, 0)), (109, (.iconst 0, 1, 0, 0, 0, 0)), (110, (.istore_n 3, 1, 0, 0, 0, 0)), (111, (.iload_n 3, 1, 0, 0, 0, 0)), (112, (.aload_n 0, 1, 0, 0, 0, 0)), (113, (.getfield 432, 3, 12, 42, 0, 1477)), (116, (.if_icmp .ge 75, 3, 0, 0, 0, 0)), (191, (.aload_n 0, 1, 0, 0, 0, 0)), (192, (.getfield 78, 3, 12, 43, 1, 1478))]), (214, [(195, (.iconst 2, 1, 0, 0, 0, 0)), (196, (.aload_n 0, 1, 0, 0, 0, 0)), (197, (.getfield 33, 3, 12, 6, 1, 1441)), (200, (.bipush 91, 2, 0, 0, 0, 0)), (202, (.iaload, 1, 0, 0, 0, 0)), (203, (.iastore, 1, 0, 0, 0, 0)), (204, (.aload_n 0, 1, 0, 0, 0, 0)), (205, (.getfield 78, 3, 12, 43, 1, 1478)), (208, (.iconst 3, 1, 0, 0, 0, 0)), (209, (.aload_n 0, 1, 0, 0, 0, 0)), (210, (.invokevirtual 300, 3, 70, 0, 0, 1790)), (213, (.iastore, 1, 0, 0, 0, 0))]), (274, [(214, (.aload_n 0, 1, 0, 0, 0, 0)), (215, (.iconst 1, 1, 0, 0, 0, 0)), (216, (.putfield 441, 3, 12, 44, 0, 1479)), (219, (.iload_n 1, 1, 0, 0, 0, 0)), (220, (.iconst 1, 1, 0, 0, 0, 0)), (221, (.if_icmp .ne 52, 3, 0, 0, 0, 0)), (224, (.aload_n 0, 1, 0, 0, 0, 0)), (225, (.getfield 78, 3, 12, 43, 1, 1478)), (228, (.iconst 1, 1, 0, 0, 0, 0)), (229, (.iaload, 1, 0, 0, 0, 0)), (230, (.ifCond .le 43, 3, 0, 0, 0, 0)), (273, (.iload_n 1, 1, 0, 0, 0, 0))]), (99999, [(274, (.ifCond .ne 7, 3, 0, 0, 0, 0)), (277, (.aload_n 0, 1, 0, 0, 0, 0)), (278, (.invokevirtual 397, 3, 130, 0, 0, 1963)), (281, (.iload_n 2, 1, 0, 0, 0, 0)), (282, (.ireturn, 1, 0, 0, 0, 0))])]
def tb_141 : List (Nat × List (Nat × rvE)) := [(22, [(0, (.aload_n 0, 1, 0, 0, 0, 0)), (1, (.iconst 0, 1, 0, 0, 0, 0)), (2, (.putfield 21, 3, 0, 3, 0, 321)), (5, (.aload_n 1, 1, 0, 0, 0, 0)), (6, (.sipush 400, 3, 0, 0, 0, 0)), (9, (.invokevirtual 25, 3, 30, 1, 0, 796)), (12, (.iconst 0, 1, 0, 0, 0, 0)), (13, (.istore_n 3, 1, 0, 0, 0, 0)), (14, (.iload_n 3, 1, 0, 0, 0, 0)), (15, (.sipush 940, 3, 0, 0, 0, 0)), (18, (.if_icmp .ge 30, 3, 0, 0, 0, 0)), (21, (.aload_n 1, 1, 0, 0, 0, 0))]), (99999, [(22, (.getfield 31, 3, 9, 10, 0, 224)), (25, (.iconst 1, 1, 0, 0, 0, 0)), (26, (.if_icmp .ne 5, 3, 0, 0, 0, 0)), (29, (.iconst 1, 1, 0, 0, 0, 0)), (30, (.ireturn, 1, 0, 0, 0, 0))])]
def tb_142 : List (Nat × List (Nat × rvE)) := [(60, [(0, (.aload_n 0, 1, 0, 0, 0, 0)), (1, (.iconst 0, 1, 0, 0, 0, 0)), (2, (.putfield 74, 3, 0, 5, 0, 323)), (5, (.aload_n 0, 1, 0, 0, 0, 0)), (6, (.iconst 0, 1, 0, 0, 0, 0)), (7, (.putfield 77, 3, 0, 6, 0, 324)), (10, (.iconst 0, 1, 0, 0, 0, 0)), (11, (.istore_n 2, 1, 0, 0, 0, 0)), (12, (.iload_n 2, 1, 0, 0, 0, 0)), (13, (.aload_n 0, 1, 0, 0, 0, 0)), (14, (.getfield 21, 3, 0, 3, 0, 321)), (17, (.if_icmp .ge 43, 3, 0, 0, 0, 0))]), (82, [(60, (.aload_n 0, 1, 0, 0, 0, 0)), (61, (.iconst 1, 1, 0, 0, 0, 0)), (62, (.putfield 84, 3, 0, 4, 0, 322)), (65, (.aload_n 0, 1, 0, 0, 0, 0)), (66, (.aload_n 1, 1, 0, 0, 0, 0)), (67, (.getfield 88, 3, 2, 2, 0, 494)), (70, (.putfield 93, 3, 0, 7, 0, 325)), (73, (.aload_n 0, 1, 0, 0, 0, 0)), (74, (.aload_n 1, 1, 0, 0, 0, 0)), (75, (.invokevirtual 96, 3, 69, 0, 0, 853)), (78, (.putfield 100, 3, 0, 8, 0, 326)), (81, (.aload_n 0, 1, 0, 0, 0, 0))]), (99999, [(82, (.getfield 74, 3, 0, 5, 0, 323)), (85, (.ifCond .ne 7, 3, 0, 0, 0, 0)), (88, (.iconst (-1), 1, 0, 0, 0, 0)), (89, (.goto 7, 3, 0, 0, 0, 0)), (96, (.ireturn, 1, 0, 0, 0, 0))])]
def tb_143 : List (Nat × List (Nat × rvE)) := [(99999, [(0, (.aload_n 0, 1, 0, 0, 0, 0)), (1, (.getfield 51, 3, 11, 9, 1, 562)), (4, (.iload_n 1, 1, 0, 0, 0, 0)), (5, (.invokevirtual 141, 3, 144, 1, 0, 881)), (8, (.ireturn, 1, 0, 0, 0, 0))])]
def tb_144 : List (Nat × List (Nat × rvE)) := [(99999, [(0, (.aload_n 0, 1, 0, 0, 0, 0)), (1, (.getfield 84, 3, 0, 4, 0, 322)), (4, (.ifCond .ne 5, 3, 0, 0, 0, 0)), (7, (.iconst (-1), 1, 0, 0, 0, 0)), (8, (.ireturn, 1, 0, 0, 0, 0))])]
def tb_145 : List (Nat × List (Nat × rvE)) := [(99999, [(0, (.aload_n 0, 1, 0, 0, 0, 0)), (1, (.iconst 0, 1, 0, 0, 0, 0)), (2, (.putfield 1, 3, 12, 0, 0, 1435)), (5, (.aload_n 0, 1, 0, 0, 0, 0)), (6, (.getfield 441, 3, 12, 44, 0, 1479)), (9, (.ifCond .eq 21, 3, 0, 0, 0, 0)), (30, (.iconst (-1), 1, 0, 0, 0, 0)), (31, (.ireturn, 1, 0, 0, 0, 0))])]
def tb_146 : List (Nat × List (Nat × rvE)) := [(24, [(0, (.new 26, 3, 6, 0, 0, 274)), (3, (.dup, 1, 0, 0, 0, 0)), (4, (.invokespecial 145, 3, 147, 0, 1, 890)), (7, (.astore_n 1, 1, 0, 0, 0, 0)), (8, (.aload_n 0, 1, 0, 0, 0, 0)), (9, (.getfield 44, 3, 11, 8, 1, 561)), (12, (.aload_n 1, 1, 0, 0, 0, 0)), (13, (.aload_n 0, 1, 0, 0, 0, 0)), (14, (.getfield 82, 3, 11, 1, 1, 554)), (17, (.getfield 128, 3, 2, 0, 0, 485)), (20, (.invokevirtual 146, 3, 148, 2, 0, 910)), (23, (.istore_n 2, 1, 0, 0, 0, 0))]), (50, [(24, (.aload_n 0, 1, 0, 0, 0, 0)), (25, (.aload_n 0, 1, 0, 0, 0, 0)), (26, (.getfield 12, 3, 11, 0, 1, 553)), (29, (.getfield 108, 3, 9, 13, 0, 235)), (32, (.putfield 111, 3, 11, 14, 0, 567)), (35, (.aload_n 0, 1, 0, 0, 0, 0)), (36, (.getfield 12, 3, 11, 0, 1, 553)), (39, (.iconst 0, 1, 0, 0, 0, 0)), (40, (.putfield 96, 3, 9, 2, 0, 214)), (43, (.aload_n 0, 1, 0, 0, 0, 0)), (44, (.getfield 111, 3, 11, 14, 0, 567)), (47, (.ifCond .eq 13, 3, 0, 0, 0, 0))]), (99999, [(50, (.iconst (-1), 1, 0, 0, 0, 0)), (51, (.aload_n 0, 1, 0, 0, 0, 0)), (52, (.getfield 12, 3, 11, 0, 1, 553)), (55, (.getfield 114, 3, 9, 14, 0, 237)), (58, (.isub, 1, 0, 0, 0, 0)), (59, (.ireturn, 1, 0, 0, 0, 0))])]
def tb_147 : List (Nat × List (Nat × rvE)) := [(23, [(0, (.aload_n 0, 1, 0, 0, 0, 0)), (1, (.invokespecial 3, 3, 0, 0, 9, 893)), (4, (.aload_n 0, 1, 0, 0, 0, 0)), (5, (.bipush 40, 2, 0, 0, 0, 0)), (7, (.newarray .int, 2, 0, 0, 0, 271)), (9, (.putfield 9, 3, 6, 0, 1, 894)), (12, (.aload_n 0, 1, 0, 0, 0, 0)), (13, (.bipush 40, 2, 0, 0, 0, 0)), (15, (.newarray .int, 2, 0, 0, 0, 271)), (17, (.putfield 15, 3, 6, 1, 1, 895)), (20, (.aload_n 0, 1, 0, 0, 0, 0)), (21, (.bipush 40, 2, 0, 0, 0, 0))]), (99999, [(23, (.newarray .int, 2, 0, 0, 0, 271)), (25, (.putfield 18, 3, 6, 2, 1, 896)), (28, (.aload_n 0, 1, 0, 0, 0, 0)), (29, (.bipush 40, 2, 0, 0, 0, 0)), (31, (.newarray .int, 2, 0, 0, 0, 271)), (33, (.putfield 21, 3, 6, 3, 1, 897)), (36, (.return_, 1, 0, 0, 0, 0))])]
def tb_148 : List (Nat × List (Nat × rvE)) := [(22, [(0, (.aload_n 0, 1, 0, 0, 0, 0)), (1, (.aload_n 2, 1, 0, 0, 0, 0)), (2, (.putfield 15, 3, 7, 1, 0, 300)), (5, (.aload_n 0, 1, 0, 0, 0, 0)), (6, (.aload_n 1, 1, 0, 0, 0, 0)), (7, (.putfield 19, 3, 7, 2, 0, 301)), (10, (.aload_n 0, 1, 0, 0, 0, 0)), (11, (.iconst 0, 1, 0, 0, 0, 0)), (12, (.putfield 23, 3, 7, 3, 0, 302)), (15, (.aload_n 0, 1, 0, 0, 0, 0)), (16, (.getfield 9, 3, 7, 0, 1, 299)), (19, (.sipush 200, 3, 0, 0, 0, 0))]), (99999, [(22, (.invokevirtual 27, 3, 30, 1, 0, 914)), (25, (.aload_n 0, 1, 0, 0, 0, 0)), (26, (.iconst 1, 1, 0, 0, 0, 0)), (27, (.invokevirtual 33, 3, 149, 1, 0, 915)), (30, (.ifCond .eq 23, 3, 0, 0, 0, 0)), (53, (.aload_n 0, 1, 0, 0, 0, 0)), (54, (.getfield 23, 3, 7, 3, 0, 302)), (57, (.ireturn, 1, 0, 0, 0, 0))])]
def tb_149 : List (Nat × List (Nat × rvE)) := [(99999, [(0, (.aload_n 0, 1, 0, 0, 0, 0)), (1, (.iload_n 1, 1, 0, 0, 0, 0)), (2, (.invokevirtual 43, 3, 150, 1, 0, 919)), (5, (.ifCond .ne 5, 3, 0, 0, 0, 0)), (8, (.iconst 0, 1, 0, 0, 0, 0)), (9, (.ireturn, 1, 0, 0, 0, 0))])]
def tb_150 : List (Nat × List (Nat × rvE)) := [(99999, [(0, (.aload_n 0, 1, 0, 0, 0, 0)), (1, (.iload_n 1, 1, 0, 0, 0, 0)), (2, (.invokevirtual 58, 3, 151, 1, 0, 923)), (5, (.ifCond .ne 5, 3, 0, 0, 0, 0)), (8, (.iconst 0, 1, 0, 0, 0, 0)), (9, (.ireturn, 1, 0, 0, 0, 0))])]
def tb_151 : List (Nat × List (Nat × rvE)) := [(23, [(0, (.aload_n 0, 1, 0, 0, 0, 0)), (1, (.getfield 9, 3, 7, 0, 1, 299)), (4, (.bipush 40, 2, 0, 0, 0, 0)), (6, (.invokevirtual 61, 3, 152, 1, 0, 927)), (9, (.istore_n 2, 1, 0, 0, 0, 0)), (10, (.aload_n 0, 1, 0, 0, 0, 0)), (11, (.getfield 9, 3, 7, 0, 1, 299)), (14, (.getfield 65, 3, 9, 11, 0, 230)), (17, (.istore_n 3, 1, 0, 0, 0, 0)), (18, (.iload_n 2, 1, 0, 0, 0, 0)), (19, (.ifCond .ne 30, 3, 0, 0, 0, 0)), (22, (.aload_n 0, 1, 0, 0, 0, 0))]), (99999, [(23, (.getfield 9, 3, 7, 0, 1, 299)), (26, (.getfield 37, 3, 9, 10, 0, 225)), (29, (.iconst 4, 1, 0, 0, 0, 0)), (30, (.if_icmp .ne 10, 3, 0, 0, 0, 0)), (40, (.aload_n 0, 1, 0, 0, 0, 0)), (41, (.getfield 9, 3, 7, 0, 1, 299)), (44, (.iconst 1, 1, 0, 0, 0, 0)), (45, (.invokevirtual 40, 3, 153, 1, 0, 932)), (48, (.ireturn, 1, 0, 0, 0, 0))])]
def tb_152 : List (Nat × List (Nat × rvE)) := [(99999, [(0, (.aload_n 0, 1, 0, 0, 0, 0)), (1, (.getfield 94, 3, 9, 10, 0, 227)), (4, (.iconst 2, 1, 0, 0, 0, 0)), (5, (.if_icmp .ne 15, 3, 0, 0, 0, 0)), (20, (.iconst 0, 1, 0, 0, 0, 0)), (21, (.ireturn, 1, 0, 0, 0, 0))])]
def tb_153 : List (Nat × List (Nat × rvE)) := [(99999, [(0, (.aload_n 0, 1, 0, 0, 0, 0)), (1, (.iload_n 1, 1, 0, 0, 0, 0)), (2, (.putfield 62, 3, 9, 13, 0, 234)), (5, (.aload_n 0, 1, 0, 0, 0, 0)), (6, (.aload_n 0, 1, 0, 0, 0, 0)), (7, (.getfield 22, 3, 9, 4, 1, 218)), (10, (.aload_n 0, 1, 0, 0, 0, 0)), (11, (.getfield 68, 3, 9, 9, 0, 223)), (14, (.iaload, 1, 0, 0, 0, 0)), (15, (.putfield 65, 3, 9, 14, 0, 236)), (18, (.iconst 0, 1, 0, 0, 0, 0)), (19, (.ireturn, 1, 0, 0, 0, 0))])]
def tb_154 : List (Nat × List (Nat × rvE)) := [(22, [(0, (.aload_n 0, 1, 0, 0, 0, 0)), (1, (.iconst 0, 1, 0, 0, 0, 0)), (2, (.putfield 1, 3, 12, 0, 0, 1435)), (5, (.aload_n 0, 1, 0, 0, 0, 0)), (6, (.sipush 200, 3, 0, 0, 0, 0)), (9, (.invokevirtual 237, 3, 41, 1, 0, 1605)), (12, (.aload_n 0, 1, 0, 0, 0, 0)), (13, (.iconst 0, 1, 0, 0, 0, 0)), (14, (.putfield 169, 3, 12, 15, 0, 1450)), (17, (.aload_n 0, 1, 0, 0, 0, 0)), (18, (.iconst 0, 1, 0, 0, 0, 0)), (19, (.putfield 444, 3, 12, 46, 0, 1481))]), (42, [(22, (.aload_n 0, 1, 0, 0, 0, 0)), (23, (.iconst 0, 1, 0, 0, 0, 0)), (24, (.putfield 460, 3, 12, 47, 0, 1482)), (27, (.aload_n 0, 1, 0, 0, 0, 0)), (28, (.iconst 0, 1, 0, 0, 0, 0)), (29, (.putfield 447, 3, 12, 48, 0, 1483)), (32, (.aload_n 0, 1, 0, 0, 0, 0)), (33, (.iconst 1, 1, 0, 0, 0, 0)), (34, (.putfield 454, 3, 12, 49, 0, 1484)), (37, (.aload_n 0, 1, 0, 0, 0, 0)), (38, (.iconst 0, 1, 0, 0, 0, 0)), (39, (.putfield 463, 3, 12, 50, 0, 1485))]), (118, [(42, (.aload_n 0, 1, 0, 0, 0, 0)), (43, (.invokevirtual 181, 3, 42, 0, 0, 1609)), (46, (.iconst 1, 1, 0, 0, 0, 0)), (47, (.istore_n 1, 1, 0, 0, 0, 0)), (48, (.iload_n 1, 1, 0, 0, 0, 0)), (49, (.ifCond .eq 83, 3, 0, 0, 0, 0)), (52, (.aload_n 0, 1, 0, 0, 0, 0)), (53, (.getfield 463, 3, 12, 50, 0, 1485)), (56, (.ifCond .eq 45, 3, 0, 0, 0, 0)), (101, (.aload_n 0, 1, 0, 0, 0, 0)), (102, (.getfield 463, 3, 12, 50, 0, 1485)), (105, (.ifCond .eq 13, 3, 0, 0, 0, 0))]), (99999, [(118, (.aload_n 0, 1, 0, 0, 0, 0)), (119, (.invokevirtual 475, 3, 155, 0, 0, 2047)), (122, (.ifCond .ne (-74), 3, 0, 0, 0, 0)), (125, (.iconst (-1), 1, 0, 0, 0, 0)), (126, (.aload_n 0, 1, 0, 0, 0, 0)), (127, (.getfield 172, 3, 12, 16, 0, 1451)), (130, (.isub, 1, 0, 0, 0, 0)), (131, (.ireturn, 1, 0, 0, 0, 0))])]
def tb_155 : List (Nat × List (Nat × rvE)) := [(21, [(0, (.aload_n 0, 1, 0, 0, 0, 0)), (1, (.ldc2_w 132, 3, 0, 0, 0, 1430)), (4, (.invokevirtual 206, 3, 156, 1, 0, 1627)), (7, (.istore_n 1, 1, 0, 0, 0, 0)), (8, (.aload_n 0, 1, 0, 0, 0, 0)), (9, (.bipush 40, 2, 0, 0, 0, 0)), (11, (.invokevirtual 175, 3, 157, 1, 0, 1692)), (14, (.istore_n 2, 1, 0, 0, 0, 0)), (15, (.aload_n 0, 1, 0, 0, 0, 0)), (16, (.invokevirtual 457, 3, 158, 0, 0, 2051)), (19, (.istore_n 3, 1, 0, 0, 0, 0)), (20, (.iload_n 1, 1, 0, 0, 0, 0))]), (99999, [(21, (.ifCond .ne 17, 3, 0, 0, 0, 0)), (24, (.iload_n 2, 1, 0, 0, 0, 0)), (25, (.ifCond .ne 13, 3, 0, 0, 0, 0)), (28, (.iload_n 3, 1, 0, 0, 0, 0)), (29, (.ifCond .ge 9, 3, 0, 0, 0, 0)), (32, (.aload_n 0, 1, 0, 0, 0, 0)), (33, (.iconst 1, 1, 0, 0, 0, 0)), (34, (.invokevirtual 178, 3, 159, 1, 0, 1635)), (37, (.ireturn, 1, 0, 0, 0, 0))])]
def tb_156 : List (Nat × List (Nat × rvE)) := [(99999, [(0, (.aload_n 0, 1, 0, 0, 0, 0)), (1, (.getfield 152, 3, 12, 11, 0, 1446)), (4, (.iconst 1, 1, 0, 0, 0, 0)), (5, (.if_icmp .ne 16, 3, 0, 0, 0, 0)), (21, (.iconst 0, 1, 0, 0, 0, 0)), (22, (.ireturn, 1, 0, 0, 0, 0))])]
def tb_157 : List (Nat × List (Nat × rvE)) := [(99999, [(0, (.aload_n 0, 1, 0, 0, 0, 0)), (1, (.getfield 152, 3, 12, 11, 0, 1446)), (4, (.iconst 3, 1, 0, 0, 0, 0)), (5, (.if_icmp .ne 15, 3, 0, 0, 0, 0)), (20, (.iconst 0, 1, 0, 0, 0, 0)), (21, (.ireturn, 1, 0, 0, 0, 0))])]
def tb_158 : List (Nat × List (Nat × rvE)) := [(42, [(0, (.aload_n 0, 1, 0, 0, 0, 0)), (1, (.ldc2_w 106, 3, 0, 0, 0, 1417)), (4, (.invokevirtual 206, 3, 156, 1, 0, 1627)), (7, (.ifCond .eq 7, 3, 0, 0, 0, 0)), (14, (.aload_n 0, 1, 0, 0, 0, 0)), (15, (.ldc2_w 102, 3, 0, 0, 0, 1415)), (18, (.invokevirtual 206, 3, 156, 1, 0, 1627)), (21, (.ifCond .eq 7, 3, 0, 0, 0, 0)), (28, (.aload_n 0, 1, 0, 0, 0, 0)), (29, (.ldc2_w 104, 3, 0, 0, 0, 1416)), (32, (.invokevirtual 206, 3, 156, 1, 0, 1627)), (35, (.ifCond .eq 7, 3, 0, 0, 0, 0))]), (84, [(42, (.aload_n 0, 1, 0, 0, 0, 0)), (43, (.ldc2_w 112, 3, 0, 0, 0, 1420)), (46, (.invokevirtual 206, 3, 156, 1, 0, 1627)), (49, (.ifCond .eq 7, 3, 0, 0, 0, 0)), (56, (.aload_n 0, 1, 0, 0, 0, 0)), (57, (.ldc2_w 134, 3, 0, 0, 0, 1431)), (60, (.invokevirtual 206, 3, 156, 1, 0, 1627)), (63, (.ifCond .eq 7, 3, 0, 0, 0, 0)), (70, (.aload_n 0, 1, 0, 0, 0, 0)), (71, (.ldc2_w 110, 3, 0, 0, 0, 1419)), (74, (.invokevirtual 206, 3, 156, 1, 0, 1627)), (77, (.ifCond .eq 7, 3, 0, 0, 0, 0))]), (129, [(84, (.aload_n 0, 1, 0, 0, 0, 0)), (85, (.ldc2_w 136, 3, 0, 0, 0, 1432)), (88, (.invokevirtual 206, 3, 156, 1, 0, 1627)), (91, (.ifCond .eq 8, 3, 0, 0, 0, 0)), (99, (.aload_n 0, 1, 0, 0, 0, 0)), (100, (.ldc2_w 138, 3, 0, 0, 0, 1433)), (103, (.invokevirtual 206, 3, 156, 1, 0, 1627)), (106, (.ifCond .eq 8, 3, 0, 0, 0, 0)), (114, (.aload_n 0, 1, 0, 0, 0, 0)), (115, (.ldc2_w 140, 3, 0, 0, 0, 1434)), (118, (.invokevirtual 206, 3, 156, 1, 0, 1627)), (121, (.ifCond .eq 8, 3, 0, 0, 0, 0))]), (99999, [(129, (.iconst (-1), 1, 0, 0, 0, 0)), (130, (.ireturn, 1, 0, 0, 0, 0))])]
def tb_159 : List (Nat × List (Nat × rvE)) := [(99999, [(0, (.aload_n 0, 1, 0, 0, 0, 0)), (1, (.iload_n 1, 1, 0, 0, 0, 0)), (2, (.putfield 169, 3, 12, 15, 0, 1450)), (5, (.aload_n 0, 1, 0, 0, 0, 0)), (6, (.aload_n 0, 1, 0, 0, 0, 0)), (7, (.getfield 146, 3, 12, 12, 0, 1447)), (10, (.putfield 172, 3, 12, 16, 0, 1451)), (13, (.iconst 0, 1, 0, 0, 0, 0)), (14, (.ireturn, 1, 0, 0, 0, 0))])]
def tb_160 : List (Nat × List (Nat × rvE)) := [(99999, [(0, (.aload_n 0, 1, 0, 0, 0, 0)), (1, (.getfield 124, 3, 11, 13, 0, 566)), (4, (.ifnull 8, 3, 0, 0, 0, 0)), (12, (.iconst (-1), 1, 0, 0, 0, 0)), (13, (.ireturn, 1, 0, 0, 0, 0))])]
def tb_161 : List (Nat × List (Nat × rvE)) := [(99999, [(0, (.aload_n 0, 1, 0, 0, 0, 0)), (1, (.iconst 0, 1, 0, 0, 0, 0)), (2, (.putfield 1, 3, 12, 0, 0, 1435)), (5, (.aload_n 0, 1, 0, 0, 0, 0)), (6, (.getfield 33, 3, 12, 6, 1, 1441)), (9, (.bipush 115, 2, 0, 0, 0, 0)), (11, (.iaload, 1, 0, 0, 0, 0)), (12, (.ifCond .eq 8, 3, 0, 0, 0, 0)), (20, (.iconst (-1), 1, 0, 0, 0, 0)), (21, (.ireturn, 1, 0, 0, 0, 0))])]
def tb_162 : List (Nat × List (Nat × rvE)) := [(18, [(0, (.iload_n 1, 1, 0, 0, 0, 0)), (1, (.iconst 0, 1, 0, 0, 0, 0)), (2, (.iconst 1, 1, 0, 0, 0, 0)), (3, (.invokestatic 260, 3, 84, 3, 0, 1112)), (6, (.ifCond .ne 5, 3, 0, 0, 0, 0)), (9, (.iconst 0, 1, 0, 0, 0, 0)), (10, (.ireturn, 1, 0, 0, 0, 0)), (11, (.aload_n 0, 1, 0, 0, 0, 0)), (12, (.getfield 18, 3, 11, 4, 1, 557)), (15, (.iload_n 1, 1, 0, 0, 0, 0)), (16, (.aaload, 1, 0, 0, 0, 0)), (17, (.aload_n 0, 1, 0, 0, 0, 0))]), (40, [(18, (.getfield 82, 3, 11, 1, 1, 554)), (21, (.invokevirtual 117, 3, 38, 1, 0, 773)), (24, (.aload_n 0, 1, 0, 0, 0, 0)), (25, (.getfield 28, 3, 11, 6, 1, 559)), (28, (.iload_n 1, 1, 0, 0, 0, 0)), (29, (.aload_n 0, 1, 0, 0, 0, 0)), (30, (.getfield 124, 3, 11, 13, 0, 566)), (33, (.aastore, 1, 0, 0, 0, 0)), (34, (.aload_n 0, 1, 0, 0, 0, 0)), (35, (.getfield 22, 3, 11, 5, 1, 558)), (38, (.iload_n 1, 1, 0, 0, 0, 0)), (39, (.iconst 1, 1, 0, 0, 0, 0))]), (99999, [(40, (.bastore, 1, 0, 0, 0, 0)), (41, (.iconst 1, 1, 0, 0, 0, 0)), (42, (.ireturn, 1, 0, 0, 0, 0))])]
def tb_163 : List (Nat × List (Nat × rvE)) := [(18, [(0, (.aload_n 0, 1, 0, 0, 0, 0)), (1, (.iconst 0, 1, 0, 0, 0, 0)), (2, (.putfield 1, 3, 12, 0, 0, 1435)), (5, (.iload_n 1, 1, 0, 0, 0, 0)), (6, (.iconst 0, 1, 0, 0, 0, 0)), (7, (.iconst 1, 1, 0, 0, 0, 0)), (8, (.invokestatic 184, 3, 50, 3, 0, 1671)), (11, (.ifCond .ne 5, 3, 0, 0, 0, 0)), (14, (.iconst 0, 1, 0, 0, 0, 0)), (15, (.ireturn, 1, 0, 0, 0, 0)), (16, (.iconst 0, 1, 0, 0, 0, 0)), (17, (.istore_n 2, 1, 0, 0, 0, 0))]), (40, [(18, (.iload_n 2, 1, 0, 0, 0, 0)), (19, (.sipush 296, 3, 0, 0, 0, 0)), (22, (.if_icmp .ge 27, 3, 0, 0, 0, 0)), (25, (.aload_n 0, 1, 0, 0, 0, 0)), (26, (.getfield 87, 3, 12, 52, 1, 1487)), (29, (.sipush 296, 3, 0, 0, 0, 0)), (32, (.iload_n 1, 1, 0, 0, 0, 0)), (33, (.imul, 1, 0, 0, 0, 0)), (34, (.iload_n 2, 1, 0, 0, 0, 0)), (35, (.iadd, 1, 0, 0, 0, 0)), (36, (.aload_n 0, 1, 0, 0, 0, 0)), (37, (.getfield 33, 3, 12, 6, 1, 1441))]), (61, [(40, (.iload_n 2, 1, 0, 0, 0, 0)), (41, (.iaload, 1, 0, 0, 0, 0)), (42, (.iastore, 1, 0, 0, 0, 0)), (43, (.iinc 2 1, 3, 0, 0, 0, 0)), (46, (.goto (-28), 3, 0, 0, 0, 0)), (49, (.iconst 0, 1, 0, 0, 0, 0)), (50, (.istore_n 2, 1, 0, 0, 0, 0)), (51, (.iload_n 2, 1, 0, 0, 0, 0)), (52, (.bipush 20, 2, 0, 0, 0, 0)), (54, (.if_icmp .ge 26, 3, 0, 0, 0, 0)), (57, (.aload_n 0, 1, 0, 0, 0, 0)), (58, (.getfield 90, 3, 12, 53, 1, 1488))]), (80, [(61, (.bipush 20, 2, 0, 0, 0, 0)), (63, (.iload_n 1, 1, 0, 0, 0, 0)), (64, (.imul, 1, 0, 0, 0, 0)), (65, (.iload_n 2, 1, 0, 0, 0, 0)), (66, (.iadd, 1, 0, 0, 0, 0)), (67, (.aload_n 0, 1, 0, 0, 0, 0)), (68, (.getfield 43, 3, 12, 9, 1, 1444)), (71, (.iload_n 2, 1, 0, 0, 0, 0)), (72, (.laload, 1, 0, 0, 0, 0)), (73, (.lastore, 1, 0, 0, 0, 0)), (74, (.iinc 2 1, 3, 0, 0, 0, 0)), (77, (.goto (-26), 3, 0, 0, 0, 0))]), (99999, [(80, (.aload_n 0, 1, 0, 0, 0, 0)), (81, (.getfield 93, 3, 12, 54, 1, 1489)), (84, (.iload_n 1, 1, 0, 0, 0, 0)), (85, (.iconst 1, 1, 0, 0, 0, 0)), (86, (.bastore, 1, 0, 0, 0, 0)), (87, (.iconst 1, 1, 0, 0, 0, 0)), (88, (.ireturn, 1, 0, 0, 0, 0))])]
def tb_164 : List (Nat × List (Nat × rvE)) := [(99999, [(0, (.iload_n 1, 1, 0, 0, 0, 0)), (1, (.iconst 0, 1, 0, 0, 0, 0)), (2, (.iconst 1, 1, 0, 0, 0, 0)), (3, (.invokestatic 260, 3, 84, 3, 0, 1112)), (6, (.ifCond .eq 12, 3, 0, 0, 0, 0)), (9, (.aload_n 0, 1, 0, 0, 0, 0)), (10, (.getfield 22, 3, 11, 5, 1, 558)), (13, (.iload_n 1, 1, 0, 0, 0, 0)), (14, (.baload, 1, 0, 0, 0, 0)), (15, (.ifCond .ne 5, 3, 0, 0, 0, 0)), (18, (.iconst 0, 1, 0, 0, 0, 0)), (19, (.ireturn, 1, 0, 0, 0, 0))])]
def tb_165 : List (Nat × List (Nat × rvE)) := [(20, [(0, (.aload_n 0, 1, 0, 0, 0, 0)), (1, (.iconst 0, 1, 0, 0, 0, 0)), (2, (.putfield 1, 3, 12, 0, 0, 1435)), (5, (.iload_n 1, 1, 0, 0, 0, 0)), (6, (.iconst 0, 1, 0, 0, 0, 0)), (7, (.iconst 1, 1, 0, 0, 0, 0)), (8, (.invokestatic 184, 3, 50, 3, 0, 1671)), (11, (.ifCond .eq 12, 3, 0, 0, 0, 0)), (14, (.aload_n 0, 1, 0, 0, 0, 0)), (15, (.getfield 93, 3, 12, 54, 1, 1489)), (18, (.iload_n 1, 1, 0, 0, 0, 0)), (19, (.baload, 1, 0, 0, 0, 0))]), (99999, [(20, (.ifCond .ne 5, 3, 0, 0, 0, 0)), (23, (.iconst 0, 1, 0, 0, 0, 0)), (24, (.ireturn, 1, 0, 0, 0, 0))])]
def tb_166 : List (Nat × List (Nat × rvE)) := [(60, [(0, (.iload_n 1, 1, 0, 0, 0, 0)), (1, (.tableswitch 71 0 5 #[39, 39, 39, 39, 52, 63], 39, 0, 0, 0, 0)), (40, (.aload_n 0, 1, 0, 0, 0, 0)), (41, (.getfield 82, 3, 11, 1, 1, 554)), (44, (.getfield 128, 3, 2, 0, 0, 485)), (47, (.getfield 161, 3, 10, 0, 1, 438)), (50, (.iload_n 1, 1, 0, 0, 0, 0)), (51, (.iaload, 1, 0, 0, 0, 0)), (52, (.ireturn, 1, 0, 0, 0, 0)), (53, (.aload_n 0, 1, 0, 0, 0, 0)), (54, (.getfield 82, 3, 11, 1, 1, 554)), (57, (.getfield 128, 3, 2, 0, 0, 485))]), (99999, [(60, (.invokevirtual 165, 3, 36, 0, 0, 981)), (63, (.ireturn, 1, 0, 0, 0, 0)), (64, (.aload_n 0, 1, 0, 0, 0, 0)), (65, (.getfield 12, 3, 11, 0, 1, 553)), (68, (.getfield 96, 3, 9, 2, 0, 214)), (71, (.ireturn, 1, 0, 0, 0, 0)), (72, (.iconst (-1), 1, 0, 0, 0, 0)), (73, (.ireturn, 1, 0, 0, 0, 0))])]
def tb_167 : List (Nat × List (Nat × rvE)) := [(55, [(0, (.aload_n 0, 1, 0, 0, 0, 0)), (1, (.iconst 0, 1, 0, 0, 0, 0)), (2, (.putfield 1, 3, 12, 0, 0, 1435)), (5, (.iload_n 1, 1, 0, 0, 0, 0)), (6, (.tableswitch 55 0 5 #[38, 38, 38, 38, 45, 50], 38, 0, 0, 0, 0)), (44, (.aload_n 0, 1, 0, 0, 0, 0)), (45, (.getfield 33, 3, 12, 6, 1, 1441)), (48, (.iload_n 1, 1, 0, 0, 0, 0)), (49, (.iaload, 1, 0, 0, 0, 0)), (50, (.ireturn, 1, 0, 0, 0, 0)), (51, (.aload_n 0, 1, 0, 0, 0, 0)), (52, (.invokevirtual 252, 3, 56, 0, 0, 1744))]), (99999, [(55, (.ireturn, 1, 0, 0, 0, 0)), (56, (.aload_n 0, 1, 0, 0, 0, 0)), (57, (.getfield 7, 3, 12, 2, 0, 1437)), (60, (.ireturn, 1, 0, 0, 0, 0)), (61, (.iconst (-1), 1, 0, 0, 0, 0)), (62, (.ireturn, 1, 0, 0, 0, 0))])]
def tbL_0 : Nat × List (Nat × rvE) := (249, [(0, (.new 8, 3, 11, 0, 0, 145)), (3, (.dup, 1, 0, 0, 0, 0)), (4, (.invokespecial 15, 3, 0, 0, 0, 147)), (7, (.astore_n 1, 1, 0, 0, 0, 0)), (8, (.new 16, 3, 12, 0, 0, 1407)), (11, (.dup, 1, 0, 0, 0, 0)), (12, (.invokespecial 18, 3, 19, 0, 0, 1408)), (15, (.astore_n 2, 1, 0, 0, 0, 0)), (16, (.iconst 1, 1, 0, 0, 0, 0)), (17, (.newarray .long, 2, 3, 0, 0, 270)), (19, (.astore_n 3, 1, 0, 0, 0, 0)), (20, (.iconst 0, 1, 0, 0, 0, 0)), (21, (.istore 4, 2, 0, 0, 0, 0)), (236, (.aload_n 1, 1, 0, 0, 0, 0)), (237, (.aload_n 0, 1, 0, 0, 0, 0)), (238, (.iload 4, 2, 0, 0, 0, 0)), (240, (.iconst 1, 1, 0, 0, 0, 0)), (241, (.iadd, 1, 0, 0, 0, 0)), (242, (.iaload, 1, 0, 0, 0, 0)), (243, (.aload_n 0, 1, 0, 0, 0, 0)), (244, (.iload 4, 2, 0, 0, 0, 0)), (246, (.iconst 2, 1, 0, 0, 0, 0)), (247, (.iadd, 1, 0, 0, 0, 0)), (248, (.iaload, 1, 0, 0, 0, 0))])
def tbL_1 : Nat × List (Nat × rvE) := (280, [(249, (.aload_n 0, 1, 0, 0, 0, 0)), (250, (.iload 4, 2, 0, 0, 0, 0)), (252, (.iconst 3, 1, 0, 0, 0, 0)), (253, (.iadd, 1, 0, 0, 0, 0)), (254, (.iaload, 1, 0, 0, 0, 0)), (255, (.aload_n 0, 1, 0, 0, 0, 0)), (256, (.iload 4, 2, 0, 0, 0, 0)), (258, (.iconst 4, 1, 0, 0, 0, 0)), (259, (.iadd, 1, 0, 0, 0, 0)), (260, (.iaload, 1, 0, 0, 0, 0)), (261, (.aload_n 0, 1, 0, 0, 0, 0)), (262, (.iload 4, 2, 0, 0, 0, 0)), (264, (.iconst 5, 1, 0, 0, 0, 0)), (265, (.iadd, 1, 0, 0, 0, 0)), (266, (.iaload, 1, 0, 0, 0, 0)), (267, (.invokevirtual 19, 3, 20, 5, 0, 599)), (270, (.aload_n 2, 1, 0, 0, 0, 0)), (271, (.aload_n 0, 1, 0, 0, 0, 0)), (272, (.iload 4, 2, 0, 0, 0, 0)), (274, (.iconst 1, 1, 0, 0, 0, 0)), (275, (.iadd, 1, 0, 0, 0, 0)), (276, (.iaload, 1, 0, 0, 0, 0)), (277, (.aload_n 0, 1, 0, 0, 0, 0)), (278, (.iload 4, 2, 0, 0, 0, 0))])
def tbL_2 : Nat × List (Nat × rvE) := (314, [(280, (.iconst 2, 1, 0, 0, 0, 0)), (281, (.iadd, 1, 0, 0, 0, 0)), (282, (.iaload, 1, 0, 0, 0, 0)), (283, (.aload_n 0, 1, 0, 0, 0, 0)), (284, (.iload 4, 2, 0, 0, 0, 0)), (286, (.iconst 3, 1, 0, 0, 0, 0)), (287, (.iadd, 1, 0, 0, 0, 0)), (288, (.iaload, 1, 0, 0, 0, 0)), (289, (.aload_n 0, 1, 0, 0, 0, 0)), (290, (.iload 4, 2, 0, 0, 0, 0)), (292, (.iconst 4, 1, 0, 0, 0, 0)), (293, (.iadd, 1, 0, 0, 0, 0)), (294, (.iaload, 1, 0, 0, 0, 0)), (295, (.aload_n 0, 1, 0, 0, 0, 0)), (296, (.iload 4, 2, 0, 0, 0, 0)), (298, (.iconst 5, 1, 0, 0, 0, 0)), (299, (.iadd, 1, 0, 0, 0, 0)), (300, (.iaload, 1, 0, 0, 0, 0)), (301, (.invokevirtual 23, 3, 22, 5, 0, 1394)), (304, (.if_icmp .eq 1172, 3, 0, 0, 0, 0)), (309, (.aload_n 1, 1, 0, 0, 0, 0)), (310, (.aload_n 0, 1, 0, 0, 0, 0)), (311, (.iload 4, 2, 0, 0, 0, 0)), (313, (.iconst 1, 1, 0, 0, 0, 0))])
def tbL_3 : Nat × List (Nat × rvE) := (432, [(314, (.iadd, 1, 0, 0, 0, 0)), (315, (.iaload, 1, 0, 0, 0, 0)), (316, (.invokevirtual 24, 3, 24, 1, 0, 607)), (319, (.aload_n 2, 1, 0, 0, 0, 0)), (320, (.aload_n 0, 1, 0, 0, 0, 0)), (321, (.iload 4, 2, 0, 0, 0, 0)), (323, (.iconst 1, 1, 0, 0, 0, 0)), (324, (.iadd, 1, 0, 0, 0, 0)), (325, (.iaload, 1, 0, 0, 0, 0)), (326, (.invokevirtual 28, 3, 25, 1, 0, 1403)), (329, (.if_icmp .eq 1147, 3, 0, 0, 0, 0)), (334, (.aload_n 1, 1, 0, 0, 0, 0)), (335, (.invokevirtual 29, 3, 26, 0, 0, 611)), (338, (.aload_n 2, 1, 0, 0, 0, 0)), (339, (.invokevirtual 33, 3, 40, 0, 0, 1601)), (342, (.if_icmp .eq 1134, 3, 0, 0, 0, 0)), (347, (.aload_n 1, 1, 0, 0, 0, 0)), (348, (.invokevirtual 34, 3, 44, 0, 0, 784)), (351, (.aload_n 2, 1, 0, 0, 0, 0)), (352, (.invokevirtual 37, 3, 45, 0, 0, 1696)), (355, (.if_icmp .eq 1121, 3, 0, 0, 0, 0)), (428, (.aload_n 1, 1, 0, 0, 0, 0)), (429, (.aload_n 0, 1, 0, 0, 0, 0)), (430, (.iload 4, 2, 0, 0, 0, 0))])
def tbL_4 : Nat × List (Nat × rvE) := (467, [(432, (.iconst 1, 1, 0, 0, 0, 0)), (433, (.iadd, 1, 0, 0, 0, 0)), (434, (.iaload, 1, 0, 0, 0, 0)), (435, (.aload_n 0, 1, 0, 0, 0, 0)), (436, (.iload 4, 2, 0, 0, 0, 0)), (438, (.iconst 2, 1, 0, 0, 0, 0)), (439, (.iadd, 1, 0, 0, 0, 0)), (440, (.iaload, 1, 0, 0, 0, 0)), (441, (.invokevirtual 47, 3, 46, 2, 0, 982)), (444, (.aload_n 2, 1, 0, 0, 0, 0)), (445, (.aload_n 0, 1, 0, 0, 0, 0)), (446, (.iload 4, 2, 0, 0, 0, 0)), (448, (.iconst 1, 1, 0, 0, 0, 0)), (449, (.iadd, 1, 0, 0, 0, 0)), (450, (.iaload, 1, 0, 0, 0, 0)), (451, (.aload_n 0, 1, 0, 0, 0, 0)), (452, (.iload 4, 2, 0, 0, 0, 0)), (454, (.iconst 2, 1, 0, 0, 0, 0)), (455, (.iadd, 1, 0, 0, 0, 0)), (456, (.iaload, 1, 0, 0, 0, 0)), (457, (.invokevirtual 50, 3, 48, 2, 0, 1724)), (460, (.if_icmp .eq 1016, 3, 0, 0, 0, 0)), (465, (.aload_n 1, 1, 0, 0, 0, 0)), (466, (.aload_n 0, 1, 0, 0, 0, 0))])
def tbL_5 : Nat × List (Nat × rvE) := (503, [(467, (.iload 4, 2, 0, 0, 0, 0)), (469, (.iconst 1, 1, 0, 0, 0, 0)), (470, (.iadd, 1, 0, 0, 0, 0)), (471, (.iaload, 1, 0, 0, 0, 0)), (472, (.invokevirtual 51, 3, 51, 1, 0, 998)), (475, (.aload_n 2, 1, 0, 0, 0, 0)), (476, (.aload_n 0, 1, 0, 0, 0, 0)), (477, (.iload 4, 2, 0, 0, 0, 0)), (479, (.iconst 1, 1, 0, 0, 0, 0)), (480, (.iadd, 1, 0, 0, 0, 0)), (481, (.iaload, 1, 0, 0, 0, 0)), (482, (.invokevirtual 55, 3, 53, 1, 0, 1732)), (485, (.if_icmp .eq 991, 3, 0, 0, 0, 0)), (490, (.aload_n 1, 1, 0, 0, 0, 0)), (491, (.aload_n 0, 1, 0, 0, 0, 0)), (492, (.iload 4, 2, 0, 0, 0, 0)), (494, (.iconst 1, 1, 0, 0, 0, 0)), (495, (.iadd, 1, 0, 0, 0, 0)), (496, (.iaload, 1, 0, 0, 0, 0)), (497, (.aload_n 0, 1, 0, 0, 0, 0)), (498, (.iload 4, 2, 0, 0, 0, 0)), (500, (.iconst 2, 1, 0, 0, 0, 0)), (501, (.iadd, 1, 0, 0, 0, 0)), (502, (.iaload, 1, 0, 0, 0, 0))])
def tbL_6 : Nat × List (Nat × rvE) := (539, [(503, (.invokevirtual 56, 3, 57, 2, 0, 1006)), (506, (.aload_n 2, 1, 0, 0, 0, 0)), (507, (.aload_n 0, 1, 0, 0, 0, 0)), (508, (.iload 4, 2, 0, 0, 0, 0)), (510, (.iconst 1, 1, 0, 0, 0, 0)), (511, (.iadd, 1, 0, 0, 0, 0)), (512, (.iaload, 1, 0, 0, 0, 0)), (513, (.aload_n 0, 1, 0, 0, 0, 0)), (514, (.iload 4, 2, 0, 0, 0, 0)), (516, (.iconst 2, 1, 0, 0, 0, 0)), (517, (.iadd, 1, 0, 0, 0, 0)), (518, (.iaload, 1, 0, 0, 0, 0)), (519, (.invokevirtual 59, 3, 58, 2, 0, 1748)), (522, (.if_icmp .eq 954, 3, 0, 0, 0, 0)), (527, (.aload_n 1, 1, 0, 0, 0, 0)), (528, (.aload_n 0, 1, 0, 0, 0, 0)), (529, (.iload 4, 2, 0, 0, 0, 0)), (531, (.iconst 1, 1, 0, 0, 0, 0)), (532, (.iadd, 1, 0, 0, 0, 0)), (533, (.iaload, 1, 0, 0, 0, 0)), (534, (.aload_n 0, 1, 0, 0, 0, 0)), (535, (.iload 4, 2, 0, 0, 0, 0)), (537, (.iconst 2, 1, 0, 0, 0, 0)), (538, (.iadd, 1, 0, 0, 0, 0))])
def tbL_7 : Nat × List (Nat × rvE) := (575, [(539, (.iaload, 1, 0, 0, 0, 0)), (540, (.invokevirtual 60, 3, 61, 2, 0, 1011)), (543, (.aload_n 2, 1, 0, 0, 0, 0)), (544, (.aload_n 0, 1, 0, 0, 0, 0)), (545, (.iload 4, 2, 0, 0, 0, 0)), (547, (.iconst 1, 1, 0, 0, 0, 0)), (548, (.iadd, 1, 0, 0, 0, 0)), (549, (.iaload, 1, 0, 0, 0, 0)), (550, (.aload_n 0, 1, 0, 0, 0, 0)), (551, (.iload 4, 2, 0, 0, 0, 0)), (553, (.iconst 2, 1, 0, 0, 0, 0)), (554, (.iadd, 1, 0, 0, 0, 0)), (555, (.iaload, 1, 0, 0, 0, 0)), (556, (.invokevirtual 63, 3, 62, 2, 0, 1759)), (559, (.if_icmp .eq 917, 3, 0, 0, 0, 0)), (564, (.aload_n 1, 1, 0, 0, 0, 0)), (565, (.aload_n 0, 1, 0, 0, 0, 0)), (566, (.iload 4, 2, 0, 0, 0, 0)), (568, (.iconst 1, 1, 0, 0, 0, 0)), (569, (.iadd, 1, 0, 0, 0, 0)), (570, (.iaload, 1, 0, 0, 0, 0)), (571, (.aload_n 0, 1, 0, 0, 0, 0)), (572, (.iload 4, 2, 0, 0, 0, 0)), (574, (.iconst 2, 1, 0, 0, 0, 0))])
def tbL_8 : Nat × List (Nat × rvE) := (612, [(575, (.iadd, 1, 0, 0, 0, 0)), (576, (.iaload, 1, 0, 0, 0, 0)), (577, (.invokevirtual 64, 3, 63, 2, 0, 1015)), (580, (.aload_n 2, 1, 0, 0, 0, 0)), (581, (.aload_n 0, 1, 0, 0, 0, 0)), (582, (.iload 4, 2, 0, 0, 0, 0)), (584, (.iconst 1, 1, 0, 0, 0, 0)), (585, (.iadd, 1, 0, 0, 0, 0)), (586, (.iaload, 1, 0, 0, 0, 0)), (587, (.aload_n 0, 1, 0, 0, 0, 0)), (588, (.iload 4, 2, 0, 0, 0, 0)), (590, (.iconst 2, 1, 0, 0, 0, 0)), (591, (.iadd, 1, 0, 0, 0, 0)), (592, (.iaload, 1, 0, 0, 0, 0)), (593, (.invokevirtual 67, 3, 64, 2, 0, 1767)), (596, (.if_icmp .eq 880, 3, 0, 0, 0, 0)), (601, (.aload_n 1, 1, 0, 0, 0, 0)), (602, (.aload_n 0, 1, 0, 0, 0, 0)), (603, (.iload 4, 2, 0, 0, 0, 0)), (605, (.iconst 1, 1, 0, 0, 0, 0)), (606, (.iadd, 1, 0, 0, 0, 0)), (607, (.iaload, 1, 0, 0, 0, 0)), (608, (.invokevirtual 68, 3, 65, 1, 0, 1023)), (611, (.aload_n 2, 1, 0, 0, 0, 0))])
def tbL_9 : Nat × List (Nat × rvE) := (653, [(612, (.aload_n 0, 1, 0, 0, 0, 0)), (613, (.iload 4, 2, 0, 0, 0, 0)), (615, (.iconst 1, 1, 0, 0, 0, 0)), (616, (.iadd, 1, 0, 0, 0, 0)), (617, (.iaload, 1, 0, 0, 0, 0)), (618, (.invokevirtual 71, 3, 66, 1, 0, 1771)), (621, (.if_icmp .eq 855, 3, 0, 0, 0, 0)), (626, (.aload_n 1, 1, 0, 0, 0, 0)), (627, (.aload_n 0, 1, 0, 0, 0, 0)), (628, (.iload 4, 2, 0, 0, 0, 0)), (630, (.iconst 1, 1, 0, 0, 0, 0)), (631, (.iadd, 1, 0, 0, 0, 0)), (632, (.iaload, 1, 0, 0, 0, 0)), (633, (.invokevirtual 72, 3, 67, 1, 0, 1028)), (636, (.aload_n 2, 1, 0, 0, 0, 0)), (637, (.aload_n 0, 1, 0, 0, 0, 0)), (638, (.iload 4, 2, 0, 0, 0, 0)), (640, (.iconst 1, 1, 0, 0, 0, 0)), (641, (.iadd, 1, 0, 0, 0, 0)), (642, (.iaload, 1, 0, 0, 0, 0)), (643, (.invokevirtual 75, 3, 68, 1, 0, 1786)), (646, (.if_icmp .eq 830, 3, 0, 0, 0, 0)), (651, (.aload_n 1, 1, 0, 0, 0, 0)), (652, (.aload_n 0, 1, 0, 0, 0, 0))])
def tbL_10 : Nat × List (Nat × rvE) := (689, [(653, (.iload 4, 2, 0, 0, 0, 0)), (655, (.iconst 1, 1, 0, 0, 0, 0)), (656, (.iadd, 1, 0, 0, 0, 0)), (657, (.iaload, 1, 0, 0, 0, 0)), (658, (.aload_n 0, 1, 0, 0, 0, 0)), (659, (.iload 4, 2, 0, 0, 0, 0)), (661, (.iconst 2, 1, 0, 0, 0, 0)), (662, (.iadd, 1, 0, 0, 0, 0)), (663, (.iaload, 1, 0, 0, 0, 0)), (664, (.invokevirtual 76, 3, 72, 2, 0, 1079)), (667, (.aload_n 2, 1, 0, 0, 0, 0)), (668, (.aload_n 0, 1, 0, 0, 0, 0)), (669, (.iload 4, 2, 0, 0, 0, 0)), (671, (.iconst 1, 1, 0, 0, 0, 0)), (672, (.iadd, 1, 0, 0, 0, 0)), (673, (.iaload, 1, 0, 0, 0, 0)), (674, (.aload_n 0, 1, 0, 0, 0, 0)), (675, (.iload 4, 2, 0, 0, 0, 0)), (677, (.iconst 2, 1, 0, 0, 0, 0)), (678, (.iadd, 1, 0, 0, 0, 0)), (679, (.iaload, 1, 0, 0, 0, 0)), (680, (.invokevirtual 79, 3, 73, 2, 0, 1794)), (683, (.if_icmp .eq 793, 3, 0, 0, 0, 0)), (688, (.aload_n 1, 1, 0, 0, 0, 0))])
def tbL_11 : Nat × List (Nat × rvE) := (725, [(689, (.aload_n 0, 1, 0, 0, 0, 0)), (690, (.iload 4, 2, 0, 0, 0, 0)), (692, (.iconst 1, 1, 0, 0, 0, 0)), (693, (.iadd, 1, 0, 0, 0, 0)), (694, (.iaload, 1, 0, 0, 0, 0)), (695, (.aload_n 0, 1, 0, 0, 0, 0)), (696, (.iload 4, 2, 0, 0, 0, 0)), (698, (.iconst 2, 1, 0, 0, 0, 0)), (699, (.iadd, 1, 0, 0, 0, 0)), (700, (.iaload, 1, 0, 0, 0, 0)), (701, (.invokevirtual 80, 3, 74, 2, 0, 1088)), (704, (.aload_n 2, 1, 0, 0, 0, 0)), (705, (.aload_n 0, 1, 0, 0, 0, 0)), (706, (.iload 4, 2, 0, 0, 0, 0)), (708, (.iconst 1, 1, 0, 0, 0, 0)), (709, (.iadd, 1, 0, 0, 0, 0)), (710, (.iaload, 1, 0, 0, 0, 0)), (711, (.aload_n 0, 1, 0, 0, 0, 0)), (712, (.iload 4, 2, 0, 0, 0, 0)), (714, (.iconst 2, 1, 0, 0, 0, 0)), (715, (.iadd, 1, 0, 0, 0, 0)), (716, (.iaload, 1, 0, 0, 0, 0)), (717, (.invokevirtual 83, 3, 75, 2, 0, 1806)), (720, (.if_icmp .eq 756, 3, 0, 0, 0, 0))])
def tbL_12 : Nat × List (Nat × rvE) := (757, [(725, (.aload_n 1, 1, 0, 0, 0, 0)), (726, (.aload_n 0, 1, 0, 0, 0, 0)), (727, (.iload 4, 2, 0, 0, 0, 0)), (729, (.iconst 1, 1, 0, 0, 0, 0)), (730, (.iadd, 1, 0, 0, 0, 0)), (731, (.iaload, 1, 0, 0, 0, 0)), (732, (.aload_n 0, 1, 0, 0, 0, 0)), (733, (.iload 4, 2, 0, 0, 0, 0)), (735, (.iconst 2, 1, 0, 0, 0, 0)), (736, (.iadd, 1, 0, 0, 0, 0)), (737, (.iaload, 1, 0, 0, 0, 0)), (738, (.invokevirtual 84, 3, 76, 2, 0, 1092)), (741, (.aload_n 2, 1, 0, 0, 0, 0)), (742, (.aload_n 0, 1, 0, 0, 0, 0)), (743, (.iload 4, 2, 0, 0, 0, 0)), (745, (.iconst 1, 1, 0, 0, 0, 0)), (746, (.iadd, 1, 0, 0, 0, 0)), (747, (.iaload, 1, 0, 0, 0, 0)), (748, (.aload_n 0, 1, 0, 0, 0, 0)), (749, (.iload 4, 2, 0, 0, 0, 0)), (751, (.iconst 2, 1, 0, 0, 0, 0)), (752, (.iadd, 1, 0, 0, 0, 0)), (753, (.iaload, 1, 0, 0, 0, 0)), (754, (.invokevirtual 87, 3, 77, 2, 0, 1814))])
def tbL_13 : Nat × List (Nat × rvE) := (798, [(757, (.if_icmp .eq 719, 3, 0, 0, 0, 0)), (762, (.aload_n 1, 1, 0, 0, 0, 0)), (763, (.aload_n 0, 1, 0, 0, 0, 0)), (764, (.iload 4, 2, 0, 0, 0, 0)), (766, (.iconst 1, 1, 0, 0, 0, 0)), (767, (.iadd, 1, 0, 0, 0, 0)), (768, (.iaload, 1, 0, 0, 0, 0)), (769, (.invokevirtual 88, 3, 78, 1, 0, 1100)), (772, (.aload_n 2, 1, 0, 0, 0, 0)), (773, (.aload_n 0, 1, 0, 0, 0, 0)), (774, (.iload 4, 2, 0, 0, 0, 0)), (776, (.iconst 1, 1, 0, 0, 0, 0)), (777, (.iadd, 1, 0, 0, 0, 0)), (778, (.iaload, 1, 0, 0, 0, 0)), (779, (.invokevirtual 91, 3, 79, 1, 0, 1826)), (782, (.if_icmp .eq 694, 3, 0, 0, 0, 0)), (787, (.aload_n 1, 1, 0, 0, 0, 0)), (788, (.aload_n 0, 1, 0, 0, 0, 0)), (789, (.iload 4, 2, 0, 0, 0, 0)), (791, (.iconst 1, 1, 0, 0, 0, 0)), (792, (.iadd, 1, 0, 0, 0, 0)), (793, (.iaload, 1, 0, 0, 0, 0)), (794, (.invokevirtual 92, 3, 81, 1, 0, 1104)), (797, (.aload_n 2, 1, 0, 0, 0, 0))])
def tbL_14 : Nat × List (Nat × rvE) := (841, [(798, (.aload_n 0, 1, 0, 0, 0, 0)), (799, (.iload 4, 2, 0, 0, 0, 0)), (801, (.iconst 1, 1, 0, 0, 0, 0)), (802, (.iadd, 1, 0, 0, 0, 0)), (803, (.iaload, 1, 0, 0, 0, 0)), (804, (.invokevirtual 95, 3, 82, 1, 0, 1834)), (807, (.if_icmp .eq 669, 3, 0, 0, 0, 0)), (812, (.aload_n 1, 1, 0, 0, 0, 0)), (813, (.aload_n 0, 1, 0, 0, 0, 0)), (814, (.iload 4, 2, 0, 0, 0, 0)), (816, (.iconst 1, 1, 0, 0, 0, 0)), (817, (.iadd, 1, 0, 0, 0, 0)), (818, (.iaload, 1, 0, 0, 0, 0)), (819, (.invokevirtual 96, 3, 83, 1, 0, 1108)), (822, (.aload_n 2, 1, 0, 0, 0, 0)), (823, (.aload_n 0, 1, 0, 0, 0, 0)), (824, (.iload 4, 2, 0, 0, 0, 0)), (826, (.iconst 1, 1, 0, 0, 0, 0)), (827, (.iadd, 1, 0, 0, 0, 0)), (828, (.iaload, 1, 0, 0, 0, 0)), (829, (.invokevirtual 99, 3, 85, 1, 0, 1838)), (832, (.if_icmp .eq 644, 3, 0, 0, 0, 0)), (837, (.aload_n 1, 1, 0, 0, 0, 0)), (838, (.invokevirtual 100, 3, 92, 0, 0, 1136))])
def tbL_15 : Nat × List (Nat × rvE) := (889, [(841, (.aload_n 2, 1, 0, 0, 0, 0)), (842, (.invokevirtual 103, 3, 94, 0, 0, 1854)), (845, (.if_icmp .eq 631, 3, 0, 0, 0, 0)), (850, (.aload_n 1, 1, 0, 0, 0, 0)), (851, (.aload_n 0, 1, 0, 0, 0, 0)), (852, (.iload 4, 2, 0, 0, 0, 0)), (854, (.iconst 1, 1, 0, 0, 0, 0)), (855, (.iadd, 1, 0, 0, 0, 0)), (856, (.iaload, 1, 0, 0, 0, 0)), (857, (.invokevirtual 104, 3, 95, 1, 0, 1152)), (860, (.aload_n 2, 1, 0, 0, 0, 0)), (861, (.aload_n 0, 1, 0, 0, 0, 0)), (862, (.iload 4, 2, 0, 0, 0, 0)), (864, (.iconst 1, 1, 0, 0, 0, 0)), (865, (.iadd, 1, 0, 0, 0, 0)), (866, (.iaload, 1, 0, 0, 0, 0)), (867, (.invokevirtual 107, 3, 96, 1, 0, 1858)), (870, (.if_icmp .eq 606, 3, 0, 0, 0, 0)), (875, (.aload_n 1, 1, 0, 0, 0, 0)), (876, (.invokevirtual 108, 3, 97, 0, 0, 1182)), (879, (.aload_n 2, 1, 0, 0, 0, 0)), (880, (.invokevirtual 111, 3, 98, 0, 0, 1874)), (883, (.if_icmp .eq 593, 3, 0, 0, 0, 0)), (888, (.aload_n 1, 1, 0, 0, 0, 0))])
def tbL_16 : Nat × List (Nat × rvE) := (939, [(889, (.invokevirtual 112, 3, 99, 0, 0, 1186)), (892, (.aload_n 2, 1, 0, 0, 0, 0)), (893, (.invokevirtual 115, 3, 100, 0, 0, 1878)), (896, (.if_icmp .eq 580, 3, 0, 0, 0, 0)), (901, (.aload_n 1, 1, 0, 0, 0, 0)), (902, (.aload_n 0, 1, 0, 0, 0, 0)), (903, (.iload 4, 2, 0, 0, 0, 0)), (905, (.iconst 1, 1, 0, 0, 0, 0)), (906, (.iadd, 1, 0, 0, 0, 0)), (907, (.iaload, 1, 0, 0, 0, 0)), (908, (.invokevirtual 116, 3, 101, 1, 0, 1190)), (911, (.aload_n 2, 1, 0, 0, 0, 0)), (912, (.aload_n 0, 1, 0, 0, 0, 0)), (913, (.iload 4, 2, 0, 0, 0, 0)), (915, (.iconst 1, 1, 0, 0, 0, 0)), (916, (.iadd, 1, 0, 0, 0, 0)), (917, (.iaload, 1, 0, 0, 0, 0)), (918, (.invokevirtual 119, 3, 102, 1, 0, 1882)), (921, (.if_icmp .eq 555, 3, 0, 0, 0, 0)), (926, (.aload_n 1, 1, 0, 0, 0, 0)), (927, (.invokevirtual 120, 3, 103, 0, 0, 1208)), (930, (.aload_n 2, 1, 0, 0, 0, 0)), (931, (.invokevirtual 123, 3, 104, 0, 0, 1890)), (934, (.if_icmp .eq 542, 3, 0, 0, 0, 0))])
def tbL_17 : Nat × List (Nat × rvE) := (982, [(939, (.aload_n 1, 1, 0, 0, 0, 0)), (940, (.aload_n 0, 1, 0, 0, 0, 0)), (941, (.iload 4, 2, 0, 0, 0, 0)), (943, (.iconst 1, 1, 0, 0, 0, 0)), (944, (.iadd, 1, 0, 0, 0, 0)), (945, (.iaload, 1, 0, 0, 0, 0)), (946, (.invokevirtual 124, 3, 105, 1, 0, 1212)), (949, (.aload_n 2, 1, 0, 0, 0, 0)), (950, (.aload_n 0, 1, 0, 0, 0, 0)), (951, (.iload 4, 2, 0, 0, 0, 0)), (953, (.iconst 1, 1, 0, 0, 0, 0)), (954, (.iadd, 1, 0, 0, 0, 0)), (955, (.iaload, 1, 0, 0, 0, 0)), (956, (.invokevirtual 127, 3, 106, 1, 0, 1894)), (959, (.if_icmp .eq 517, 3, 0, 0, 0, 0)), (964, (.aload_n 1, 1, 0, 0, 0, 0)), (965, (.invokevirtual 128, 3, 107, 0, 0, 1220)), (968, (.aload_n 2, 1, 0, 0, 0, 0)), (969, (.invokevirtual 131, 3, 108, 0, 0, 1898)), (972, (.if_icmp .eq 504, 3, 0, 0, 0, 0)), (977, (.aload_n 1, 1, 0, 0, 0, 0)), (978, (.aload_n 0, 1, 0, 0, 0, 0)), (979, (.iload 4, 2, 0, 0, 0, 0)), (981, (.iconst 1, 1, 0, 0, 0, 0))])
def tbL_18 : Nat × List (Nat × rvE) := (1019, [(982, (.iadd, 1, 0, 0, 0, 0)), (983, (.iaload, 1, 0, 0, 0, 0)), (984, (.invokevirtual 132, 3, 109, 1, 0, 1224)), (987, (.aload_n 2, 1, 0, 0, 0, 0)), (988, (.aload_n 0, 1, 0, 0, 0, 0)), (989, (.iload 4, 2, 0, 0, 0, 0)), (991, (.iconst 1, 1, 0, 0, 0, 0)), (992, (.iadd, 1, 0, 0, 0, 0)), (993, (.iaload, 1, 0, 0, 0, 0)), (994, (.invokevirtual 135, 3, 110, 1, 0, 1902)), (997, (.if_icmp .eq 479, 3, 0, 0, 0, 0)), (1002, (.aload_n 1, 1, 0, 0, 0, 0)), (1003, (.aload_n 0, 1, 0, 0, 0, 0)), (1004, (.iload 4, 2, 0, 0, 0, 0)), (1006, (.iconst 1, 1, 0, 0, 0, 0)), (1007, (.iadd, 1, 0, 0, 0, 0)), (1008, (.iaload, 1, 0, 0, 0, 0)), (1009, (.aload_n 0, 1, 0, 0, 0, 0)), (1010, (.iload 4, 2, 0, 0, 0, 0)), (1012, (.iconst 2, 1, 0, 0, 0, 0)), (1013, (.iadd, 1, 0, 0, 0, 0)), (1014, (.iaload, 1, 0, 0, 0, 0)), (1015, (.invokevirtual 136, 3, 111, 2, 0, 1229)), (1018, (.aload_n 2, 1, 0, 0, 0, 0))])
def tbL_19 : Nat × List (Nat × rvE) := (1053, [(1019, (.aload_n 0, 1, 0, 0, 0, 0)), (1020, (.iload 4, 2, 0, 0, 0, 0)), (1022, (.iconst 1, 1, 0, 0, 0, 0)), (1023, (.iadd, 1, 0, 0, 0, 0)), (1024, (.iaload, 1, 0, 0, 0, 0)), (1025, (.aload_n 0, 1, 0, 0, 0, 0)), (1026, (.iload 4, 2, 0, 0, 0, 0)), (1028, (.iconst 2, 1, 0, 0, 0, 0)), (1029, (.iadd, 1, 0, 0, 0, 0)), (1030, (.iaload, 1, 0, 0, 0, 0)), (1031, (.invokevirtual 139, 3, 112, 2, 0, 1910)), (1034, (.if_icmp .eq 442, 3, 0, 0, 0, 0)), (1039, (.aload_n 1, 1, 0, 0, 0, 0)), (1040, (.aload_n 0, 1, 0, 0, 0, 0)), (1041, (.iload 4, 2, 0, 0, 0, 0)), (1043, (.iconst 1, 1, 0, 0, 0, 0)), (1044, (.iadd, 1, 0, 0, 0, 0)), (1045, (.iaload, 1, 0, 0, 0, 0)), (1046, (.aload_n 0, 1, 0, 0, 0, 0)), (1047, (.iload 4, 2, 0, 0, 0, 0)), (1049, (.iconst 2, 1, 0, 0, 0, 0)), (1050, (.iadd, 1, 0, 0, 0, 0)), (1051, (.iaload, 1, 0, 0, 0, 0)), (1052, (.aload_n 0, 1, 0, 0, 0, 0))])
def tbL_20 : Nat × List (Nat × rvE) := (1089, [(1053, (.iload 4, 2, 0, 0, 0, 0)), (1055, (.iconst 3, 1, 0, 0, 0, 0)), (1056, (.iadd, 1, 0, 0, 0, 0)), (1057, (.iaload, 1, 0, 0, 0, 0)), (1058, (.invokevirtual 140, 3, 113, 3, 0, 1241)), (1061, (.aload_n 2, 1, 0, 0, 0, 0)), (1062, (.aload_n 0, 1, 0, 0, 0, 0)), (1063, (.iload 4, 2, 0, 0, 0, 0)), (1065, (.iconst 1, 1, 0, 0, 0, 0)), (1066, (.iadd, 1, 0, 0, 0, 0)), (1067, (.iaload, 1, 0, 0, 0, 0)), (1068, (.aload_n 0, 1, 0, 0, 0, 0)), (1069, (.iload 4, 2, 0, 0, 0, 0)), (1071, (.iconst 2, 1, 0, 0, 0, 0)), (1072, (.iadd, 1, 0, 0, 0, 0)), (1073, (.iaload, 1, 0, 0, 0, 0)), (1074, (.aload_n 0, 1, 0, 0, 0, 0)), (1075, (.iload 4, 2, 0, 0, 0, 0)), (1077, (.iconst 3, 1, 0, 0, 0, 0)), (1078, (.iadd, 1, 0, 0, 0, 0)), (1079, (.iaload, 1, 0, 0, 0, 0)), (1080, (.invokevirtual 144, 3, 114, 3, 0, 1919)), (1083, (.if_icmp .eq 393, 3, 0, 0, 0, 0)), (1088, (.aload_n 1, 1, 0, 0, 0, 0))])
def tbL_21 : Nat × List (Nat × rvE) := (1139, [(1089, (.invokevirtual 145, 3, 115, 0, 0, 1249)), (1092, (.aload_n 2, 1, 0, 0, 0, 0)), (1093, (.invokevirtual 148, 3, 118, 0, 0, 1923)), (1096, (.if_icmp .eq 380, 3, 0, 0, 0, 0)), (1101, (.aload_n 1, 1, 0, 0, 0, 0)), (1102, (.invokevirtual 149, 3, 119, 0, 0, 1280)), (1105, (.aload_n 2, 1, 0, 0, 0, 0)), (1106, (.invokevirtual 152, 3, 120, 0, 0, 1939)), (1109, (.if_icmp .eq 367, 3, 0, 0, 0, 0)), (1114, (.aload_n 1, 1, 0, 0, 0, 0)), (1115, (.invokevirtual 153, 3, 121, 0, 0, 1284)), (1118, (.aload_n 2, 1, 0, 0, 0, 0)), (1119, (.invokevirtual 156, 3, 122, 0, 0, 1943)), (1122, (.if_icmp .eq 354, 3, 0, 0, 0, 0)), (1127, (.aload_n 1, 1, 0, 0, 0, 0)), (1128, (.aload_n 0, 1, 0, 0, 0, 0)), (1129, (.iload 4, 2, 0, 0, 0, 0)), (1131, (.iconst 1, 1, 0, 0, 0, 0)), (1132, (.iadd, 1, 0, 0, 0, 0)), (1133, (.iaload, 1, 0, 0, 0, 0)), (1134, (.aload_n 0, 1, 0, 0, 0, 0)), (1135, (.iload 4, 2, 0, 0, 0, 0)), (1137, (.iconst 2, 1, 0, 0, 0, 0)), (1138, (.iadd, 1, 0, 0, 0, 0))])
def tbL_22 : Nat × List (Nat × rvE) := (1182, [(1139, (.iaload, 1, 0, 0, 0, 0)), (1140, (.invokevirtual 157, 3, 123, 2, 0, 1288)), (1143, (.aload_n 2, 1, 0, 0, 0, 0)), (1144, (.aload_n 0, 1, 0, 0, 0, 0)), (1145, (.iload 4, 2, 0, 0, 0, 0)), (1147, (.iconst 1, 1, 0, 0, 0, 0)), (1148, (.iadd, 1, 0, 0, 0, 0)), (1149, (.iaload, 1, 0, 0, 0, 0)), (1150, (.aload_n 0, 1, 0, 0, 0, 0)), (1151, (.iload 4, 2, 0, 0, 0, 0)), (1153, (.iconst 2, 1, 0, 0, 0, 0)), (1154, (.iadd, 1, 0, 0, 0, 0)), (1155, (.iaload, 1, 0, 0, 0, 0)), (1156, (.invokevirtual 160, 3, 125, 2, 0, 1947)), (1159, (.if_icmp .eq 317, 3, 0, 0, 0, 0)), (1164, (.aload_n 1, 1, 0, 0, 0, 0)), (1165, (.invokevirtual 161, 3, 127, 0, 0, 1300)), (1168, (.aload_n 2, 1, 0, 0, 0, 0)), (1169, (.invokevirtual 164, 3, 128, 0, 0, 1955)), (1172, (.if_icmp .eq 304, 3, 0, 0, 0, 0)), (1177, (.aload_n 1, 1, 0, 0, 0, 0)), (1178, (.aload_n 0, 1, 0, 0, 0, 0)), (1179, (.iload 4, 2, 0, 0, 0, 0)), (1181, (.iconst 1, 1, 0, 0, 0, 0))])
def tbL_23 : Nat × List (Nat × rvE) := (1219, [(1182, (.iadd, 1, 0, 0, 0, 0)), (1183, (.iaload, 1, 0, 0, 0, 0)), (1184, (.invokevirtual 165, 3, 131, 1, 0, 1042)), (1187, (.aload_n 2, 1, 0, 0, 0, 0)), (1188, (.aload_n 0, 1, 0, 0, 0, 0)), (1189, (.iload 4, 2, 0, 0, 0, 0)), (1191, (.iconst 1, 1, 0, 0, 0, 0)), (1192, (.iadd, 1, 0, 0, 0, 0)), (1193, (.iaload, 1, 0, 0, 0, 0)), (1194, (.invokevirtual 168, 3, 132, 1, 0, 1967)), (1197, (.if_icmp .eq 279, 3, 0, 0, 0, 0)), (1202, (.aload_n 1, 1, 0, 0, 0, 0)), (1203, (.aload_n 0, 1, 0, 0, 0, 0)), (1204, (.iload 4, 2, 0, 0, 0, 0)), (1206, (.iconst 1, 1, 0, 0, 0, 0)), (1207, (.iadd, 1, 0, 0, 0, 0)), (1208, (.iaload, 1, 0, 0, 0, 0)), (1209, (.invokevirtual 169, 3, 133, 1, 0, 1075)), (1212, (.aload_n 2, 1, 0, 0, 0, 0)), (1213, (.aload_n 0, 1, 0, 0, 0, 0)), (1214, (.iload 4, 2, 0, 0, 0, 0)), (1216, (.iconst 1, 1, 0, 0, 0, 0)), (1217, (.iadd, 1, 0, 0, 0, 0)), (1218, (.iaload, 1, 0, 0, 0, 0))])
def tbL_24 : Nat × List (Nat × rvE) := (1255, [(1219, (.invokevirtual 172, 3, 134, 1, 0, 1986)), (1222, (.if_icmp .eq 254, 3, 0, 0, 0, 0)), (1227, (.aload_n 1, 1, 0, 0, 0, 0)), (1228, (.aload_n 0, 1, 0, 0, 0, 0)), (1229, (.iload 4, 2, 0, 0, 0, 0)), (1231, (.iconst 1, 1, 0, 0, 0, 0)), (1232, (.iadd, 1, 0, 0, 0, 0)), (1233, (.iaload, 1, 0, 0, 0, 0)), (1234, (.aload_n 0, 1, 0, 0, 0, 0)), (1235, (.iload 4, 2, 0, 0, 0, 0)), (1237, (.iconst 2, 1, 0, 0, 0, 0)), (1238, (.iadd, 1, 0, 0, 0, 0)), (1239, (.iaload, 1, 0, 0, 0, 0)), (1240, (.invokevirtual 173, 3, 135, 2, 0, 1114)), (1243, (.aload_n 2, 1, 0, 0, 0, 0)), (1244, (.aload_n 0, 1, 0, 0, 0, 0)), (1245, (.iload 4, 2, 0, 0, 0, 0)), (1247, (.iconst 1, 1, 0, 0, 0, 0)), (1248, (.iadd, 1, 0, 0, 0, 0)), (1249, (.iaload, 1, 0, 0, 0, 0)), (1250, (.aload_n 0, 1, 0, 0, 0, 0)), (1251, (.iload 4, 2, 0, 0, 0, 0)), (1253, (.iconst 2, 1, 0, 0, 0, 0)), (1254, (.iadd, 1, 0, 0, 0, 0))])
def tbL_25 : Nat × List (Nat × rvE) := (1291, [(1255, (.iaload, 1, 0, 0, 0, 0)), (1256, (.invokevirtual 176, 3, 136, 2, 0, 1990)), (1259, (.if_icmp .eq 217, 3, 0, 0, 0, 0)), (1264, (.aload_n 1, 1, 0, 0, 0, 0)), (1265, (.aload_n 0, 1, 0, 0, 0, 0)), (1266, (.iload 4, 2, 0, 0, 0, 0)), (1268, (.iconst 1, 1, 0, 0, 0, 0)), (1269, (.iadd, 1, 0, 0, 0, 0)), (1270, (.iaload, 1, 0, 0, 0, 0)), (1271, (.aload_n 0, 1, 0, 0, 0, 0)), (1272, (.iload 4, 2, 0, 0, 0, 0)), (1274, (.iconst 2, 1, 0, 0, 0, 0)), (1275, (.iadd, 1, 0, 0, 0, 0)), (1276, (.iaload, 1, 0, 0, 0, 0)), (1277, (.aload_n 0, 1, 0, 0, 0, 0)), (1278, (.iload 4, 2, 0, 0, 0, 0)), (1280, (.iconst 3, 1, 0, 0, 0, 0)), (1281, (.iadd, 1, 0, 0, 0, 0)), (1282, (.iaload, 1, 0, 0, 0, 0)), (1283, (.invokevirtual 177, 3, 137, 3, 0, 1305)), (1286, (.aload_n 2, 1, 0, 0, 0, 0)), (1287, (.aload_n 0, 1, 0, 0, 0, 0)), (1288, (.iload 4, 2, 0, 0, 0, 0)), (1290, (.iconst 1, 1, 0, 0, 0, 0))])
def tbL_26 : Nat × List (Nat × rvE) := (1327, [(1291, (.iadd, 1, 0, 0, 0, 0)), (1292, (.iaload, 1, 0, 0, 0, 0)), (1293, (.aload_n 0, 1, 0, 0, 0, 0)), (1294, (.iload 4, 2, 0, 0, 0, 0)), (1296, (.iconst 2, 1, 0, 0, 0, 0)), (1297, (.iadd, 1, 0, 0, 0, 0)), (1298, (.iaload, 1, 0, 0, 0, 0)), (1299, (.aload_n 0, 1, 0, 0, 0, 0)), (1300, (.iload 4, 2, 0, 0, 0, 0)), (1302, (.iconst 3, 1, 0, 0, 0, 0)), (1303, (.iadd, 1, 0, 0, 0, 0)), (1304, (.iaload, 1, 0, 0, 0, 0)), (1305, (.invokevirtual 180, 3, 138, 3, 0, 2007)), (1308, (.if_icmp .eq 168, 3, 0, 0, 0, 0)), (1313, (.aload_n 1, 1, 0, 0, 0, 0)), (1314, (.aload_n 0, 1, 0, 0, 0, 0)), (1315, (.iload 4, 2, 0, 0, 0, 0)), (1317, (.iconst 1, 1, 0, 0, 0, 0)), (1318, (.iadd, 1, 0, 0, 0, 0)), (1319, (.iaload, 1, 0, 0, 0, 0)), (1320, (.invokevirtual 181, 3, 139, 1, 0, 788)), (1323, (.aload_n 2, 1, 0, 0, 0, 0)), (1324, (.aload_n 0, 1, 0, 0, 0, 0)), (1325, (.iload 4, 2, 0, 0, 0, 0))])
def tbL_27 : Nat × List (Nat × rvE) := (1371, [(1327, (.iconst 1, 1, 0, 0, 0, 0)), (1328, (.iadd, 1, 0, 0, 0, 0)), (1329, (.iaload, 1, 0, 0, 0, 0)), (1330, (.invokevirtual 184, 3, 140, 1, 0, 2011)), (1333, (.if_icmp .eq 143, 3, 0, 0, 0, 0)), (1338, (.aload_n 1, 1, 0, 0, 0, 0)), (1339, (.aload_n 0, 1, 0, 0, 0, 0)), (1340, (.iload 4, 2, 0, 0, 0, 0)), (1342, (.iconst 1, 1, 0, 0, 0, 0)), (1343, (.iadd, 1, 0, 0, 0, 0)), (1344, (.iaload, 1, 0, 0, 0, 0)), (1345, (.invokevirtual 185, 3, 143, 1, 0, 877)), (1348, (.aload_n 2, 1, 0, 0, 0, 0)), (1349, (.aload_n 0, 1, 0, 0, 0, 0)), (1350, (.iload 4, 2, 0, 0, 0, 0)), (1352, (.iconst 1, 1, 0, 0, 0, 0)), (1353, (.iadd, 1, 0, 0, 0, 0)), (1354, (.iaload, 1, 0, 0, 0, 0)), (1355, (.invokevirtual 188, 3, 145, 1, 0, 2023)), (1358, (.if_icmp .eq 118, 3, 0, 0, 0, 0)), (1363, (.aload_n 1, 1, 0, 0, 0, 0)), (1364, (.invokevirtual 189, 3, 146, 0, 0, 885)), (1367, (.aload_n 2, 1, 0, 0, 0, 0)), (1368, (.invokevirtual 192, 3, 154, 0, 0, 2027))])
def tbL_28 : Nat × List (Nat × rvE) := (1412, [(1371, (.if_icmp .eq 105, 3, 0, 0, 0, 0)), (1376, (.aload_n 1, 1, 0, 0, 0, 0)), (1377, (.aload_n 0, 1, 0, 0, 0, 0)), (1378, (.iload 4, 2, 0, 0, 0, 0)), (1380, (.iconst 1, 1, 0, 0, 0, 0)), (1381, (.iadd, 1, 0, 0, 0, 0)), (1382, (.iaload, 1, 0, 0, 0, 0)), (1383, (.invokevirtual 193, 3, 160, 1, 0, 950)), (1386, (.aload_n 2, 1, 0, 0, 0, 0)), (1387, (.aload_n 0, 1, 0, 0, 0, 0)), (1388, (.iload 4, 2, 0, 0, 0, 0)), (1390, (.iconst 1, 1, 0, 0, 0, 0)), (1391, (.iadd, 1, 0, 0, 0, 0)), (1392, (.iaload, 1, 0, 0, 0, 0)), (1393, (.invokevirtual 196, 3, 161, 1, 0, 2055)), (1396, (.if_icmp .eq 80, 3, 0, 0, 0, 0)), (1401, (.aload_n 1, 1, 0, 0, 0, 0)), (1402, (.aload_n 0, 1, 0, 0, 0, 0)), (1403, (.iload 4, 2, 0, 0, 0, 0)), (1405, (.iconst 1, 1, 0, 0, 0, 0)), (1406, (.iadd, 1, 0, 0, 0, 0)), (1407, (.iaload, 1, 0, 0, 0, 0)), (1408, (.invokevirtual 197, 3, 162, 1, 0, 1144)), (1411, (.aload_n 2, 1, 0, 0, 0, 0))])
def tbL_29 : Nat × List (Nat × rvE) := (1453, [(1412, (.aload_n 0, 1, 0, 0, 0, 0)), (1413, (.iload 4, 2, 0, 0, 0, 0)), (1415, (.iconst 1, 1, 0, 0, 0, 0)), (1416, (.iadd, 1, 0, 0, 0, 0)), (1417, (.iaload, 1, 0, 0, 0, 0)), (1418, (.invokevirtual 200, 3, 163, 1, 0, 2067)), (1421, (.if_icmp .eq 55, 3, 0, 0, 0, 0)), (1426, (.aload_n 1, 1, 0, 0, 0, 0)), (1427, (.aload_n 0, 1, 0, 0, 0, 0)), (1428, (.iload 4, 2, 0, 0, 0, 0)), (1430, (.iconst 1, 1, 0, 0, 0, 0)), (1431, (.iadd, 1, 0, 0, 0, 0)), (1432, (.iaload, 1, 0, 0, 0, 0)), (1433, (.invokevirtual 201, 3, 164, 1, 0, 1148)), (1436, (.aload_n 2, 1, 0, 0, 0, 0)), (1437, (.aload_n 0, 1, 0, 0, 0, 0)), (1438, (.iload 4, 2, 0, 0, 0, 0)), (1440, (.iconst 1, 1, 0, 0, 0, 0)), (1441, (.iadd, 1, 0, 0, 0, 0)), (1442, (.iaload, 1, 0, 0, 0, 0)), (1443, (.invokevirtual 204, 3, 165, 1, 0, 2071)), (1446, (.if_icmp .eq 30, 3, 0, 0, 0, 0)), (1451, (.aload_n 1, 1, 0, 0, 0, 0)), (1452, (.aload_n 0, 1, 0, 0, 0, 0))])
def tbL_30 : Nat × List (Nat × rvE) := (99999, [(1453, (.iload 4, 2, 0, 0, 0, 0)), (1455, (.iconst 1, 1, 0, 0, 0, 0)), (1456, (.iadd, 1, 0, 0, 0, 0)), (1457, (.iaload, 1, 0, 0, 0, 0)), (1458, (.invokevirtual 205, 3, 166, 1, 0, 977)), (1461, (.aload_n 2, 1, 0, 0, 0, 0)), (1462, (.aload_n 0, 1, 0, 0, 0, 0)), (1463, (.iload 4, 2, 0, 0, 0, 0)), (1465, (.iconst 1, 1, 0, 0, 0, 0)), (1466, (.iadd, 1, 0, 0, 0, 0)), (1467, (.iaload, 1, 0, 0, 0, 0)), (1468, (.invokevirtual 208, 3, 167, 1, 0, 2075)), (1471, (.if_icmp .eq 5, 3, 0, 0, 0, 0))])
def tb_L : List (Nat × List (Nat × rvE)) := [tbL_0, tbL_1, tbL_2, tbL_3, tbL_4, tbL_5, tbL_6, tbL_7, tbL_8, tbL_9, tbL_10, tbL_11, tbL_12, tbL_13, tbL_14, tbL_15, tbL_16, tbL_17, tbL_18, tbL_19, tbL_20, tbL_21, tbL_22, tbL_23, tbL_24, tbL_25, tbL_26, tbL_27, tbL_28, tbL_29, tbL_30]
def rvEn : Nat → List (Nat × List (Nat × rvE)) := fun n => (bif Nat.ble 84 n then (bif Nat.ble 126 n then (bif Nat.ble 147 n then (bif Nat.ble 157 n then (bif Nat.ble 162 n then (bif Nat.ble 165 n then (bif Nat.ble 166 n then (bif Nat.ble 167 n then (bif Nat.beq n 167 then tb_167 else []) else (bif Nat.beq n 166 then tb_166 else [])) else (bif Nat.beq n 165 then tb_165 else [])) else (bif Nat.ble 163 n then (bif Nat.ble 164 n then (bif Nat.beq n 164 then tb_164 else []) else (bif Nat.beq n 163 then tb_163 else [])) else (bif Nat.beq n 162 then tb_162 else []))) else (bif Nat.ble 159 n then (bif Nat.ble 160 n then (bif Nat.ble 161 n then (bif Nat.beq n 161 then tb_161 else []) else (bif Nat.beq n 160 then tb_160 else [])) else (bif Nat.beq n 159 then tb_159 else [])) else (bif Nat.ble 158 n then (bif Nat.beq n 158 then tb_158 else []) else (bif Nat.beq n 157 then tb_157 else [])))) else (bif Nat.ble 152 n then (bif Nat.ble 154 n then (bif Nat.ble 155 n then (bif Nat.ble 156 n then (bif Nat.beq n 156 then tb_156 else []) else (bif Nat.beq n 155 then tb_155 else [])) else (bif Nat.beq n 154 then tb_154 else [])) else (bif Nat.ble 153 n then (bif Nat.beq n 153 then tb_153 else []) else (bif Nat.beq n 152 then tb_152 else []))) else (bif Nat.ble 149 n then (bif Nat.ble 150 n then (bif Nat.ble 151 n then (bif Nat.beq n 151 then tb_151 else []) else (bif Nat.beq n 150 then tb_150 else [])) else (bif Nat.beq n 149 then tb_149 else [])) else (bif Nat.ble 148 n then (bif Nat.beq n 148 then tb_148 else []) else (bif Nat.beq n 147 then tb_147 else []))))) else (bif Nat.ble 136 n then (bif Nat.ble 141 n then (bif Nat.ble 144 n then (bif Nat.ble 145 n then (bif Nat.ble 146 n then (bif Nat.beq n 146 then tb_146 else []) else (bif Nat.beq n 145 then tb_145 else [])) else (bif Nat.beq n 144 then tb_144 else [])) else (bif Nat.ble 142 n then (bif Nat.ble 143 n then (bif Nat.beq n 143 then tb_143 else []) else (bif Nat.beq n 142 then tb_142 else [])) else (bif Nat.beq n 141 then tb_141 else []))) else (bif Nat.ble 138 n then (bif Nat.ble 139 n then (bif Nat.ble 140 n then (bif Nat.beq n 140 then tb_140 else []) else (bif Nat.beq n 139 then tb_139 else [])) else (bif Nat.beq n 138 then tb_138 else [])) else (bif Nat.ble 137 n then (bif Nat.beq n 137 then tb_137 else []) else (bif Nat.beq n 136 then tb_136 else [])))) else (bif Nat.ble 131 n then (bif Nat.ble 133 n then (bif Nat.ble 134 n then (bif Nat.ble 135 n then (bif Nat.beq n 135 then tb_135 else []) else (bif Nat.beq n 134 then tb_134 else [])) else (bif Nat.beq n 133 then tb_133 else [])) else (bif Nat.ble 132 n then (bif Nat.beq n 132 then tb_132 else []) else (bif Nat.beq n 131 then tb_131 else []))) else (bif Nat.ble 128 n then (bif Nat.ble 129 n then (bif Nat.ble 130 n then (bif Nat.beq n 130 then tb_130 else []) else (bif Nat.beq n 129 then tb_129 else [])) else (bif Nat.beq n 128 then tb_128 else [])) else (bif Nat.ble 127 n then (bif Nat.beq n 127 then tb_127 else []) else (bif Nat.beq n 126 then tb_126 else [])))))) else (bif Nat.ble 105 n then (bif Nat.ble 115 n then (bif Nat.ble 120 n then (bif Nat.ble 123 n then (bif Nat.ble 124 n then (bif Nat.ble 125 n then (bif Nat.beq n 125 then tb_125 else []) else (bif Nat.beq n 124 then tb_124 else [])) else (bif Nat.beq n 123 then tb_123 else [])) else (bif Nat.ble 121 n then (bif Nat.ble 122 n then (bif Nat.beq n 122 then tb_122 else []) else (bif Nat.beq n 121 then tb_121 else [])) else (bif Nat.beq n 120 then tb_120 else []))) else (bif Nat.ble 117 n then (bif Nat.ble 118 n then (bif Nat.ble 119 n then (bif Nat.beq n 119 then tb_119 else []) else (bif Nat.beq n 118 then tb_118 else [])) else (bif Nat.beq n 117 then tb_117 else [])) else (bif Nat.ble 116 n then (bif Nat.beq n 116 then tb_116 else []) else (bif Nat.beq n 115 then tb_115 else [])))) else (bif Nat.ble 110 n then (bif Nat.ble 112 n then (bif Nat.ble 113 n then (bif Nat.ble 114 n then (bif Nat.beq n 114 then tb_114 else []) else (bif Nat.beq n 113 then tb_113 else [])) else (bif Nat.beq n 112 then tb_112 else [])) else (bif Nat.ble 111 n then (bif Nat.beq n 111 then tb_111 else []) else (bif Nat.beq n 110 then tb_110 else []))) else (bif Nat.ble 107 n then (bif Nat.ble 108 n then (bif Nat.ble 109 n then (bif Nat.beq n 109 then tb_109 else []) else (bif Nat.beq n 108 then tb_108 else [])) else (bif Nat.beq n 107 then tb_107 else [])) else (bif Nat.ble 106 n then (bif Nat.beq n 106 then tb_106 else []) else (bif Nat.beq n 105 then tb_105 else []))))) else (bif Nat.ble 94 n then (bif Nat.ble 99 n then (bif Nat.ble 102 n then (bif Nat.ble 103 n then (bif Nat.ble 104 n then (bif Nat.beq n 104 then tb_104 else []) else (bif Nat.beq n 103 then tb_103 else [])) else (bif Nat.beq n 102 then tb_102 else [])) else (bif Nat.ble 100 n then (bif Nat.ble 101 n then (bif Nat.beq n 101 then tb_101 else []) else (bif Nat.beq n 100 then tb_100 else [])) else (bif Nat.beq n 99 then tb_99 else []))) else (bif Nat.ble 96 n then (bif Nat.ble 97 n then (bif Nat.ble 98 n then (bif Nat.beq n 98 then tb_98 else []) else (bif Nat.beq n 97 then tb_97 else [])) else (bif Nat.beq n 96 then tb_96 else [])) else (bif Nat.ble 95 n then (bif Nat.beq n 95 then tb_95 else []) else (bif Nat.beq n 94 then tb_94 else [])))) else (bif Nat.ble 89 n then (bif Nat.ble 91 n then (bif Nat.ble 92 n then (bif Nat.ble 93 n then (bif Nat.beq n 93 then tb_93 else []) else (bif Nat.beq n 92 then tb_92 else [])) else (bif Nat.beq n 91 then tb_91 else [])) else (bif Nat.ble 90 n then (bif Nat.beq n 90 then tb_90 else []) else (bif Nat.beq n 89 then tb_89 else []))) else (bif Nat.ble 86 n then (bif Nat.ble 87 n then (bif Nat.ble 88 n then (bif Nat.beq n 88 then tb_88 else []) else (bif Nat.beq n 87 then tb_87 else [])) else (bif Nat.beq n 86 then tb_86 else [])) else (bif Nat.ble 85 n then (bif Nat.beq n 85 then tb_85 else []) else (bif Nat.beq n 84 then tb_84 else []))))))) else (bif Nat.ble 42 n then (bif Nat.ble 63 n then (bif Nat.ble 73 n then (bif Nat.ble 78 n then (bif Nat.ble 81 n then (bif Nat.ble 82 n then (bif Nat.ble 83 n then (bif Nat.beq n 83 then tb_83 else []) else (bif Nat.beq n 82 then tb_82 else [])) else (bif Nat.beq n 81 then tb_81 else [])) else (bif Nat.ble 79 n then (bif Nat.ble 80 n then (bif Nat.beq n 80 then tb_80 else []) else (bif Nat.beq n 79 then tb_79 else [])) else (bif Nat.beq n 78 then tb_78 else []))) else (bif Nat.ble 75 n then (bif Nat.ble 76 n then (bif Nat.ble 77 n then (bif Nat.beq n 77 then tb_77 else []) else (bif Nat.beq n 76 then tb_76 else [])) else (bif Nat.beq n 75 then tb_75 else [])) else (bif Nat.ble 74 n then (bif Nat.beq n 74 then tb_74 else []) else (bif Nat.beq n 73 then tb_73 else [])))) else (bif Nat.ble 68 n then (bif Nat.ble 70 n then (bif Nat.ble 71 n then (bif Nat.ble 72 n then (bif Nat.beq n 72 then tb_72 else []) else (bif Nat.beq n 71 then tb_71 else [])) else (bif Nat.beq n 70 then tb_70 else [])) else (bif Nat.ble 69 n then (bif Nat.beq n 69 then tb_69 else []) else (bif Nat.beq n 68 then tb_68 else []))) else (bif Nat.ble 65 n then (bif Nat.ble 66 n then (bif Nat.ble 67 n then (bif Nat.beq n 67 then tb_67 else []) else (bif Nat.beq n 66 then tb_66 else [])) else (bif Nat.beq n 65 then tb_65 else [])) else (bif Nat.ble 64 n then (bif Nat.beq n 64 then tb_64 else []) else (bif Nat.beq n 63 then tb_63 else []))))) else (bif Nat.ble 52 n then (bif Nat.ble 57 n then (bif Nat.ble 60 n then (bif Nat.ble 61 n then (bif Nat.ble 62 n then (bif Nat.beq n 62 then tb_62 else []) else (bif Nat.beq n 61 then tb_61 else [])) else (bif Nat.beq n 60 then tb_60 else [])) else (bif Nat.ble 58 n then (bif Nat.ble 59 n then (bif Nat.beq n 59 then tb_59 else []) else (bif Nat.beq n 58 then tb_58 else [])) else (bif Nat.beq n 57 then tb_57 else []))) else (bif Nat.ble 54 n then (bif Nat.ble 55 n then (bif Nat.ble 56 n then (bif Nat.beq n 56 then tb_56 else []) else (bif Nat.beq n 55 then tb_55 else [])) else (bif Nat.beq n 54 then tb_54 else [])) else (bif Nat.ble 53 n then (bif Nat.beq n 53 then tb_53 else []) else (bif Nat.beq n 52 then tb_52 else [])))) else (bif Nat.ble 47 n then (bif Nat.ble 49 n then (bif Nat.ble 50 n then (bif Nat.ble 51 n then (bif Nat.beq n 51 then tb_51 else []) else (bif Nat.beq n 50 then tb_50 else [])) else (bif Nat.beq n 49 then tb_49 else [])) else (bif Nat.ble 48 n then (bif Nat.beq n 48 then tb_48 else []) else (bif Nat.beq n 47 then tb_47 else []))) else (bif Nat.ble 44 n then (bif Nat.ble 45 n then (bif Nat.ble 46 n then (bif Nat.beq n 46 then tb_46 else []) else (bif Nat.beq n 45 then tb_45 else [])) else (bif Nat.beq n 44 then tb_44 else [])) else (bif Nat.ble 43 n then (bif Nat.beq n 43 then tb_43 else []) else (bif Nat.beq n 42 then tb_42 else [])))))) else (bif Nat.ble 21 n then (bif Nat.ble 31 n then (bif Nat.ble 36 n then (bif Nat.ble 39 n then (bif Nat.ble 40 n then (bif Nat.ble 41 n then (bif Nat.beq n 41 then tb_41 else []) else (bif Nat.beq n 40 then tb_40 else [])) else (bif Nat.beq n 39 then tb_39 else [])) else (bif Nat.ble 37 n then (bif Nat.ble 38 n then (bif Nat.beq n 38 then tb_38 else []) else (bif Nat.beq n 37 then tb_37 else [])) else (bif Nat.beq n 36 then tb_36 else []))) else (bif Nat.ble 33 n then (bif Nat.ble 34 n then (bif Nat.ble 35 n then (bif Nat.beq n 35 then tb_35 else []) else (bif Nat.beq n 34 then tb_34 else [])) else (bif Nat.beq n 33 then tb_33 else [])) else (bif Nat.ble 32 n then (bif Nat.beq n 32 then tb_32 else []) else (bif Nat.beq n 31 then tb_31 else [])))) else (bif Nat.ble 26 n then (bif Nat.ble 28 n then (bif Nat.ble 29 n then (bif Nat.ble 30 n then (bif Nat.beq n 30 then tb_30 else []) else (bif Nat.beq n 29 then tb_29 else [])) else (bif Nat.beq n 28 then tb_28 else [])) else (bif Nat.ble 27 n then (bif Nat.beq n 27 then tb_27 else []) else (bif Nat.beq n 26 then tb_26 else []))) else (bif Nat.ble 23 n then (bif Nat.ble 24 n then (bif Nat.ble 25 n then (bif Nat.beq n 25 then tb_25 else []) else (bif Nat.beq n 24 then tb_24 else [])) else (bif Nat.beq n 23 then tb_23 else [])) else (bif Nat.ble 22 n then (bif Nat.beq n 22 then tb_22 else []) else (bif Nat.beq n 21 then tb_21 else []))))) else (bif Nat.ble 10 n then (bif Nat.ble 15 n then (bif Nat.ble 18 n then (bif Nat.ble 19 n then (bif Nat.ble 20 n then (bif Nat.beq n 20 then tb_20 else []) else (bif Nat.beq n 19 then tb_19 else [])) else (bif Nat.beq n 18 then tb_18 else [])) else (bif Nat.ble 16 n then (bif Nat.ble 17 n then (bif Nat.beq n 17 then tb_17 else []) else (bif Nat.beq n 16 then tb_16 else [])) else (bif Nat.beq n 15 then tb_15 else []))) else (bif Nat.ble 12 n then (bif Nat.ble 13 n then (bif Nat.ble 14 n then (bif Nat.beq n 14 then tb_14 else []) else (bif Nat.beq n 13 then tb_13 else [])) else (bif Nat.beq n 12 then tb_12 else [])) else (bif Nat.ble 11 n then (bif Nat.beq n 11 then tb_11 else []) else (bif Nat.beq n 10 then tb_10 else [])))) else (bif Nat.ble 5 n then (bif Nat.ble 7 n then (bif Nat.ble 8 n then (bif Nat.ble 9 n then (bif Nat.beq n 9 then tb_9 else []) else (bif Nat.beq n 8 then tb_8 else [])) else (bif Nat.beq n 7 then tb_7 else [])) else (bif Nat.ble 6 n then (bif Nat.beq n 6 then tb_6 else []) else (bif Nat.beq n 5 then tb_5 else []))) else (bif Nat.ble 2 n then (bif Nat.ble 3 n then (bif Nat.ble 4 n then (bif Nat.beq n 4 then tb_4 else []) else (bif Nat.beq n 3 then tb_3 else [])) else (bif Nat.beq n 2 then tb_2 else [])) else (bif Nat.ble 1 n then (bif Nat.beq n 1 then tb_1 else []) else (bif Nat.beq n 0 then tb_0 else []))))))))
def rvTab : Nat → Nat → Option rvE := fun j => rvFind2 (rvEn j)
def rvInf : Nat → rvM := fun n => (bif Nat.ble 84 n then (bif Nat.ble 126 n then (bif Nat.ble 147 n then (bif Nat.ble 157 n then (bif Nat.ble 162 n then (bif Nat.ble 165 n then (bif Nat.ble 166 n then (bif Nat.ble 167 n then (bif Nat.beq n 167 then (2, 1, 0, 0, 20, 12) else (0, 0, 0, 0, 0, 200)) else (bif Nat.beq n 166 then (2, 1, 0, 0, 20, 11) else (0, 0, 0, 0, 0, 200))) else (bif Nat.beq n 165 then (3, 1, 0, 0, 22, 12) else (0, 0, 0, 0, 0, 200))) else (bif Nat.ble 163 n then (bif Nat.ble 164 n then (bif Nat.beq n 164 then (2, 1, 0, 0, 22, 11) else (0, 0, 0, 0, 0, 200)) else (bif Nat.beq n 163 then (3, 1, 0, 0, 22, 12) else (0, 0, 0, 0, 0, 200))) else (bif Nat.beq n 162 then (2, 2, 0, 0, 81, 11) else (0, 0, 0, 0, 0, 200)))) else (bif Nat.ble 159 n then (bif Nat.ble 160 n then (bif Nat.ble 161 n then (bif Nat.beq n 161 then (4, 0, 0, 0, 0, 12) else (0, 0, 0, 0, 0, 200)) else (bif Nat.beq n 160 then (5, 0, 0, 0, 0, 11) else (0, 0, 0, 0, 0, 200))) else (bif Nat.beq n 159 then (2, 0, 0, 0, 0, 12) else (0, 0, 0, 0, 0, 200))) else (bif Nat.ble 158 n then (bif Nat.beq n 158 then (1, 1, 0, 0, 22, 12) else (0, 0, 0, 0, 0, 200)) else (bif Nat.beq n 157 then (2, 0, 0, 0, 0, 12) else (0, 0, 0, 0, 0, 200))))) else (bif Nat.ble 152 n then (bif Nat.ble 154 n then (bif Nat.ble 155 n then (bif Nat.ble 156 n then (bif Nat.beq n 156 then (3, 0, 0, 0, 0, 12) else (0, 0, 0, 0, 0, 200)) else (bif Nat.beq n 155 then (5, 2, 0, 0, 42, 12) else (0, 0, 0, 0, 0, 200))) else (bif Nat.beq n 154 then (3, 3, 0, 0, 66, 12) else (0, 0, 0, 0, 0, 200))) else (bif Nat.ble 153 n then (bif Nat.beq n 153 then (2, 0, 0, 0, 0, 9) else (0, 0, 0, 0, 0, 200)) else (bif Nat.beq n 152 then (2, 0, 0, 0, 0, 9) else (0, 0, 0, 0, 0, 200)))) else (bif Nat.ble 149 n then (bif Nat.ble 150 n then (bif Nat.ble 151 n then (bif Nat.beq n 151 then (5, 1, 0, 0, 21, 7) else (0, 0, 0, 0, 0, 200)) else (bif Nat.beq n 150 then (3, 2, 0, 0, 45, 7) else (0, 0, 0, 0, 0, 200))) else (bif Nat.beq n 149 then (3, 3, 0, 0, 67, 7) else (0, 0, 0, 0, 0, 200))) else (bif Nat.ble 148 n then (bif Nat.beq n 148 then (3, 4, 0, 0, 89, 7) else (0, 0, 0, 0, 0, 200)) else (bif Nat.beq n 147 then (1, 1, 4, 160, 12, 6) else (0, 0, 0, 0, 0, 200)))))) else (bif Nat.ble 136 n then (bif Nat.ble 141 n then (bif Nat.ble 144 n then (bif Nat.ble 145 n then (bif Nat.ble 146 n then (bif Nat.beq n 146 then (3, 5, 5, 165, 111, 11) else (0, 0, 0, 0, 0, 200)) else (bif Nat.beq n 145 then (2, 0, 0, 0, 0, 12) else (0, 0, 0, 0, 0, 200))) else (bif Nat.beq n 144 then (2, 0, 0, 0, 0, 0) else (0, 0, 0, 0, 0, 200))) else (bif Nat.ble 142 n then (bif Nat.ble 143 n then (bif Nat.beq n 143 then (2, 1, 0, 0, 21, 11) else (0, 0, 0, 0, 0, 200)) else (bif Nat.beq n 142 then (3, 1, 0, 0, 22, 0) else (0, 0, 0, 0, 0, 200))) else (bif Nat.beq n 141 then (4, 2, 0, 0, 44, 0) else (0, 0, 0, 0, 0, 200)))) else (bif Nat.ble 138 n then (bif Nat.ble 139 n then (bif Nat.ble 140 n then (bif Nat.beq n 140 then (4, 2, 0, 0, 44, 12) else (0, 0, 0, 0, 0, 200)) else (bif Nat.beq n 139 then (4, 3, 0, 0, 102, 11) else (0, 0, 0, 0, 0, 200))) else (bif Nat.beq n 138 then (6, 2, 0, 0, 43, 12) else (0, 0, 0, 0, 0, 200))) else (bif Nat.ble 137 n then (bif Nat.beq n 137 then (6, 1, 0, 0, 21, 11) else (0, 0, 0, 0, 0, 200)) else (bif Nat.beq n 136 then (3, 1, 0, 0, 22, 12) else (0, 0, 0, 0, 0, 200))))) else (bif Nat.ble 131 n then (bif Nat.ble 133 n then (bif Nat.ble 134 n then (bif Nat.ble 135 n then (bif Nat.beq n 135 then (4, 1, 0, 0, 22, 11) else (0, 0, 0, 0, 0, 200)) else (bif Nat.beq n 134 then (2, 1, 0, 0, 22, 12) else (0, 0, 0, 0, 0, 200))) else (bif Nat.beq n 133 then (2, 0, 0, 0, 0, 11) else (0, 0, 0, 0, 0, 200))) else (bif Nat.ble 132 n then (bif Nat.beq n 132 then (4, 2, 0, 0, 43, 12) else (0, 0, 0, 0, 0, 200)) else (bif Nat.beq n 131 then (2, 1, 0, 0, 21, 11) else (0, 0, 0, 0, 0, 200)))) else (bif Nat.ble 128 n then (bif Nat.ble 129 n then (bif Nat.ble 130 n then (bif Nat.beq n 130 then (2, 0, 0, 0, 0, 12) else (0, 0, 0, 0, 0, 200)) else (bif Nat.beq n 129 then (2, 0, 0, 0, 0, 12) else (0, 0, 0, 0, 0, 200))) else (bif Nat.beq n 128 then (4, 2, 0, 0, 44, 12) else (0, 0, 0, 0, 0, 200))) else (bif Nat.ble 127 n then (bif Nat.beq n 127 then (2, 2, 0, 0, 81, 11) else (0, 0, 0, 0, 0, 200)) else (bif Nat.beq n 126 then (2, 1, 0, 0, 22, 12) else (0, 0, 0, 0, 0, 200))))))) else (bif Nat.ble 105 n then (bif Nat.ble 115 n then (bif Nat.ble 120 n then (bif Nat.ble 123 n then (bif Nat.ble 124 n then (bif Nat.ble 125 n then (bif Nat.beq n 125 then (11, 2, 0, 0, 43, 12) else (0, 0, 0, 0, 0, 200)) else (bif Nat.beq n 124 then (2, 0, 0, 0, 0, 11) else (0, 0, 0, 0, 0, 200))) else (bif Nat.beq n 123 then (3, 1, 0, 0, 21, 11) else (0, 0, 0, 0, 0, 200))) else (bif Nat.ble 121 n then (bif Nat.ble 122 n then (bif Nat.beq n 122 then (1, 0, 0, 0, 0, 12) else (0, 0, 0, 0, 0, 200)) else (bif Nat.beq n 121 then (1, 0, 0, 0, 0, 11) else (0, 0, 0, 0, 0, 200))) else (bif Nat.beq n 120 then (1, 0, 0, 0, 0, 12) else (0, 0, 0, 0, 0, 200)))) else (bif Nat.ble 117 n then (bif Nat.ble 118 n then (bif Nat.ble 119 n then (bif Nat.beq n 119 then (1, 0, 0, 0, 0, 11) else (0, 0, 0, 0, 0, 200)) else (bif Nat.beq n 118 then (5, 1, 0, 0, 22, 12) else (0, 0, 0, 0, 0, 200))) else (bif Nat.beq n 117 then (3, 1, 0, 0, 22, 8) else (0, 0, 0, 0, 0, 200))) else (bif Nat.ble 116 n then (bif Nat.beq n 116 then (5, 2, 0, 0, 44, 8) else (0, 0, 0, 0, 0, 200)) else (bif Nat.beq n 115 then (2, 3, 0, 0, 68, 11) else (0, 0, 0, 0, 0, 200))))) else (bif Nat.ble 110 n then (bif Nat.ble 112 n then (bif Nat.ble 113 n then (bif Nat.ble 114 n then (bif Nat.beq n 114 then (6, 2, 0, 0, 43, 12) else (0, 0, 0, 0, 0, 200)) else (bif Nat.beq n 113 then (4, 1, 0, 0, 21, 11) else (0, 0, 0, 0, 0, 200))) else (bif Nat.beq n 112 then (9, 2, 0, 0, 43, 12) else (0, 0, 0, 0, 0, 200))) else (bif Nat.ble 111 n then (bif Nat.beq n 111 then (3, 1, 0, 0, 21, 11) else (0, 0, 0, 0, 0, 200)) else (bif Nat.beq n 110 then (4, 2, 0, 0, 43, 12) else (0, 0, 0, 0, 0, 200)))) else (bif Nat.ble 107 n then (bif Nat.ble 108 n then (bif Nat.ble 109 n then (bif Nat.beq n 109 then (6, 1, 0, 0, 21, 11) else (0, 0, 0, 0, 0, 200)) else (bif Nat.beq n 108 then (1, 0, 0, 0, 0, 12) else (0, 0, 0, 0, 0, 200))) else (bif Nat.beq n 107 then (1, 0, 0, 0, 0, 11) else (0, 0, 0, 0, 0, 200))) else (bif Nat.ble 106 n then (bif Nat.beq n 106 then (7, 2, 0, 0, 43, 12) else (0, 0, 0, 0, 0, 200)) else (bif Nat.beq n 105 then (2, 1, 0, 0, 21, 11) else (0, 0, 0, 0, 0, 200)))))) else (bif Nat.ble 94 n then (bif Nat.ble 99 n then (bif Nat.ble 102 n then (bif Nat.ble 103 n then (bif Nat.ble 104 n then (bif Nat.beq n 104 then (1, 0, 0, 0, 0, 12) else (0, 0, 0, 0, 0, 200)) else (bif Nat.beq n 103 then (1, 0, 0, 0, 0, 11) else (0, 0, 0, 0, 0, 200))) else (bif Nat.beq n 102 then (4, 2, 0, 0, 43, 12) else (0, 0, 0, 0, 0, 200))) else (bif Nat.ble 100 n then (bif Nat.ble 101 n then (bif Nat.beq n 101 then (2, 1, 0, 0, 21, 11) else (0, 0, 0, 0, 0, 200)) else (bif Nat.beq n 100 then (1, 0, 0, 0, 0, 12) else (0, 0, 0, 0, 0, 200))) else (bif Nat.beq n 99 then (1, 0, 0, 0, 0, 11) else (0, 0, 0, 0, 0, 200)))) else (bif Nat.ble 96 n then (bif Nat.ble 97 n then (bif Nat.ble 98 n then (bif Nat.beq n 98 then (1, 0, 0, 0, 0, 12) else (0, 0, 0, 0, 0, 200)) else (bif Nat.beq n 97 then (1, 0, 0, 0, 0, 11) else (0, 0, 0, 0, 0, 200))) else (bif Nat.beq n 96 then (2, 2, 0, 0, 43, 12) else (0, 0, 0, 0, 0, 200))) else (bif Nat.ble 95 n then (bif Nat.beq n 95 then (2, 1, 0, 0, 21, 11) else (0, 0, 0, 0, 0, 200)) else (bif Nat.beq n 94 then (2, 0, 0, 0, 0, 12) else (0, 0, 0, 0, 0, 200))))) else (bif Nat.ble 89 n then (bif Nat.ble 91 n then (bif Nat.ble 92 n then (bif Nat.ble 93 n then (bif Nat.beq n 93 then (2, 0, 0, 0, 0, 3) else (0, 0, 0, 0, 0, 200)) else (bif Nat.beq n 92 then (1, 1, 0, 0, 21, 11) else (0, 0, 0, 0, 0, 200))) else (bif Nat.beq n 91 then (3, 1, 0, 0, 22, 12) else (0, 0, 0, 0, 0, 200))) else (bif Nat.ble 90 n then (bif Nat.beq n 90 then (3, 2, 0, 0, 44, 12) else (0, 0, 0, 0, 0, 200)) else (bif Nat.beq n 89 then (2, 0, 0, 0, 0, 12) else (0, 0, 0, 0, 0, 200)))) else (bif Nat.ble 86 n then (bif Nat.ble 87 n then (bif Nat.ble 88 n then (bif Nat.beq n 88 then (2, 2, 0, 0, 81, 3) else (0, 0, 0, 0, 0, 200)) else (bif Nat.beq n 87 then (4, 0, 0, 0, 0, 2) else (0, 0, 0, 0, 0, 200))) else (bif Nat.beq n 86 then (4, 1, 0, 0, 23, 2) else (0, 0, 0, 0, 0, 200))) else (bif Nat.ble 85 n then (bif Nat.beq n 85 then (2, 3, 0, 0, 66, 12) else (0, 0, 0, 0, 0, 200)) else (bif Nat.beq n 84 then (3, 0, 0, 0, 0, 11) else (0, 0, 0, 0, 0, 200)))))))) else (bif Nat.ble 42 n then (bif Nat.ble 63 n then (bif Nat.ble 73 n then (bif Nat.ble 78 n then (bif Nat.ble 81 n then (bif Nat.ble 82 n then (bif Nat.ble 83 n then (bif Nat.beq n 83 then (3, 3, 0, 0, 102, 11) else (0, 0, 0, 0, 0, 200)) else (bif Nat.beq n 82 then (2, 3, 0, 0, 65, 12) else (0, 0, 0, 0, 0, 200))) else (bif Nat.beq n 81 then (2, 1, 0, 0, 21, 11) else (0, 0, 0, 0, 0, 200))) else (bif Nat.ble 79 n then (bif Nat.ble 80 n then (bif Nat.beq n 80 then (3, 2, 0, 0, 43, 12) else (0, 0, 0, 0, 0, 200)) else (bif Nat.beq n 79 then (2, 3, 0, 0, 65, 12) else (0, 0, 0, 0, 0, 200))) else (bif Nat.beq n 78 then (2, 1, 0, 0, 21, 11) else (0, 0, 0, 0, 0, 200)))) else (bif Nat.ble 75 n then (bif Nat.ble 76 n then (bif Nat.ble 77 n then (bif Nat.beq n 77 then (4, 2, 0, 0, 43, 12) else (0, 0, 0, 0, 0, 200)) else (bif Nat.beq n 76 then (3, 1, 0, 0, 21, 11) else (0, 0, 0, 0, 0, 200))) else (bif Nat.beq n 75 then (4, 2, 0, 0, 43, 12) else (0, 0, 0, 0, 0, 200))) else (bif Nat.ble 74 n then (bif Nat.beq n 74 then (3, 1, 0, 0, 21, 11) else (0, 0, 0, 0, 0, 200)) else (bif Nat.beq n 73 then (4, 2, 0, 0, 43, 12) else (0, 0, 0, 0, 0, 200))))) else (bif Nat.ble 68 n then (bif Nat.ble 70 n then (bif Nat.ble 71 n then (bif Nat.ble 72 n then (bif Nat.beq n 72 then (3, 1, 0, 0, 21, 11) else (0, 0, 0, 0, 0, 200)) else (bif Nat.beq n 71 then (3, 0, 0, 0, 0, 2) else (0, 0, 0, 0, 0, 200))) else (bif Nat.beq n 70 then (3, 1, 0, 0, 22, 12) else (0, 0, 0, 0, 0, 200))) else (bif Nat.ble 69 n then (bif Nat.beq n 69 then (3, 0, 0, 0, 0, 2) else (0, 0, 0, 0, 0, 200)) else (bif Nat.beq n 68 then (4, 2, 0, 0, 44, 12) else (0, 0, 0, 0, 0, 200)))) else (bif Nat.ble 65 n then (bif Nat.ble 66 n then (bif Nat.ble 67 n then (bif Nat.beq n 67 then (2, 1, 0, 0, 22, 11) else (0, 0, 0, 0, 0, 200)) else (bif Nat.beq n 66 then (2, 2, 0, 0, 43, 12) else (0, 0, 0, 0, 0, 200))) else (bif Nat.beq n 65 then (2, 1, 0, 0, 21, 11) else (0, 0, 0, 0, 0, 200))) else (bif Nat.ble 64 n then (bif Nat.beq n 64 then (3, 2, 0, 0, 43, 12) else (0, 0, 0, 0, 0, 200)) else (bif Nat.beq n 63 then (3, 2, 0, 0, 41, 11) else (0, 0, 0, 0, 0, 200)))))) else (bif Nat.ble 52 n then (bif Nat.ble 57 n then (bif Nat.ble 60 n then (bif Nat.ble 61 n then (bif Nat.ble 62 n then (bif Nat.beq n 62 then (3, 2, 0, 0, 43, 12) else (0, 0, 0, 0, 0, 200)) else (bif Nat.beq n 61 then (3, 2, 0, 0, 41, 11) else (0, 0, 0, 0, 0, 200))) else (bif Nat.beq n 60 then (2, 1, 0, 0, 22, 12) else (0, 0, 0, 0, 0, 200))) else (bif Nat.ble 58 n then (bif Nat.ble 59 n then (bif Nat.beq n 59 then (2, 0, 0, 0, 0, 11) else (0, 0, 0, 0, 0, 200)) else (bif Nat.beq n 58 then (3, 2, 0, 0, 43, 12) else (0, 0, 0, 0, 0, 200))) else (bif Nat.beq n 57 then (3, 2, 0, 0, 41, 11) else (0, 0, 0, 0, 0, 200)))) else (bif Nat.ble 54 n then (bif Nat.ble 55 n then (bif Nat.ble 56 n then (bif Nat.beq n 56 then (1, 0, 0, 0, 0, 12) else (0, 0, 0, 0, 0, 200)) else (bif Nat.beq n 55 then (2, 1, 0, 0, 22, 12) else (0, 0, 0, 0, 0, 200))) else (bif Nat.beq n 54 then (3, 0, 0, 0, 0, 12) else (0, 0, 0, 0, 0, 200))) else (bif Nat.ble 53 n then (bif Nat.beq n 53 then (2, 2, 0, 0, 43, 12) else (0, 0, 0, 0, 0, 200)) else (bif Nat.beq n 52 then (2, 1, 0, 0, 20, 11) else (0, 0, 0, 0, 0, 200))))) else (bif Nat.ble 47 n then (bif Nat.ble 49 n then (bif Nat.ble 50 n then (bif Nat.ble 51 n then (bif Nat.beq n 51 then (2, 2, 0, 0, 41, 11) else (0, 0, 0, 0, 0, 200)) else (bif Nat.beq n 50 then (3, 0, 0, 0, 0, 12) else (0, 0, 0, 0, 0, 200))) else (bif Nat.beq n 49 then (2, 1, 0, 0, 22, 12) else (0, 0, 0, 0, 0, 200))) else (bif Nat.ble 48 n then (bif Nat.beq n 48 then (3, 2, 0, 0, 43, 12) else (0, 0, 0, 0, 0, 200)) else (bif Nat.beq n 47 then (2, 0, 0, 0, 0, 11) else (0, 0, 0, 0, 0, 200)))) else (bif Nat.ble 44 n then (bif Nat.ble 45 n then (bif Nat.ble 46 n then (bif Nat.beq n 46 then (3, 1, 0, 0, 21, 11) else (0, 0, 0, 0, 0, 200)) else (bif Nat.beq n 45 then (1, 0, 0, 0, 0, 12) else (0, 0, 0, 0, 0, 200))) else (bif Nat.beq n 44 then (1, 0, 0, 0, 0, 11) else (0, 0, 0, 0, 0, 200))) else (bif Nat.ble 43 n then (bif Nat.beq n 43 then (1, 0, 0, 0, 0, 12) else (0, 0, 0, 0, 0, 200)) else (bif Nat.beq n 42 then (4, 1, 0, 0, 20, 12) else (0, 0, 0, 0, 0, 200))))))) else (bif Nat.ble 21 n then (bif Nat.ble 31 n then (bif Nat.ble 36 n then (bif Nat.ble 39 n then (bif Nat.ble 40 n then (bif Nat.ble 41 n then (bif Nat.beq n 41 then (2, 0, 0, 0, 0, 12) else (0, 0, 0, 0, 0, 200)) else (bif Nat.beq n 40 then (2, 2, 0, 0, 43, 12) else (0, 0, 0, 0, 0, 200))) else (bif Nat.beq n 39 then (1, 0, 0, 0, 0, 3) else (0, 0, 0, 0, 0, 200))) else (bif Nat.ble 37 n then (bif Nat.ble 38 n then (bif Nat.beq n 38 then (2, 1, 0, 0, 60, 2) else (0, 0, 0, 0, 0, 200)) else (bif Nat.beq n 37 then (3, 0, 0, 0, 0, 2) else (0, 0, 0, 0, 0, 200))) else (bif Nat.beq n 36 then (1, 0, 0, 0, 0, 10) else (0, 0, 0, 0, 0, 200)))) else (bif Nat.ble 33 n then (bif Nat.ble 34 n then (bif Nat.ble 35 n then (bif Nat.beq n 35 then (3, 1, 0, 0, 23, 2) else (0, 0, 0, 0, 0, 200)) else (bif Nat.beq n 34 then (1, 0, 0, 0, 0, 10) else (0, 0, 0, 0, 0, 200))) else (bif Nat.beq n 33 then (4, 2, 0, 0, 45, 2) else (0, 0, 0, 0, 0, 200))) else (bif Nat.ble 32 n then (bif Nat.beq n 32 then (1, 0, 0, 0, 0, 9) else (0, 0, 0, 0, 0, 200)) else (bif Nat.beq n 31 then (3, 0, 0, 0, 0, 9) else (0, 0, 0, 0, 0, 200))))) else (bif Nat.ble 26 n then (bif Nat.ble 28 n then (bif Nat.ble 29 n then (bif Nat.ble 30 n then (bif Nat.beq n 30 then (3, 1, 0, 0, 22, 9) else (0, 0, 0, 0, 0, 200)) else (bif Nat.beq n 29 then (4, 0, 0, 0, 0, 200) else (0, 0, 0, 0, 0, 200))) else (bif Nat.beq n 28 then (2, 1, 0, 0, 23, 2) else (0, 0, 0, 0, 0, 200))) else (bif Nat.ble 27 n then (bif Nat.beq n 27 then (3, 3, 8, 101, 68, 1) else (0, 0, 0, 0, 0, 200)) else (bif Nat.beq n 26 then (2, 4, 8, 101, 90, 11) else (0, 0, 0, 0, 0, 200)))) else (bif Nat.ble 23 n then (bif Nat.ble 24 n then (bif Nat.ble 25 n then (bif Nat.beq n 25 then (2, 0, 0, 0, 0, 12) else (0, 0, 0, 0, 0, 200)) else (bif Nat.beq n 24 then (2, 0, 0, 0, 0, 11) else (0, 0, 0, 0, 0, 200))) else (bif Nat.beq n 23 then (3, 0, 0, 0, 0, 12) else (0, 0, 0, 0, 0, 200))) else (bif Nat.ble 22 n then (bif Nat.beq n 22 then (6, 1, 0, 0, 22, 12) else (0, 0, 0, 0, 0, 200)) else (bif Nat.beq n 21 then (3, 0, 0, 0, 0, 9) else (0, 0, 0, 0, 0, 200)))))) else (bif Nat.ble 10 n then (bif Nat.ble 15 n then (bif Nat.ble 18 n then (bif Nat.ble 19 n then (bif Nat.ble 20 n then (bif Nat.beq n 20 then (6, 1, 0, 0, 22, 11) else (0, 0, 0, 0, 0, 200)) else (bif Nat.beq n 19 then (1, 1, 21, 9716, 12, 12) else (0, 0, 0, 0, 0, 200))) else (bif Nat.beq n 18 then (3, 2, 49, 664, 33, 3) else (0, 0, 0, 0, 0, 200))) else (bif Nat.ble 16 n then (bif Nat.ble 17 n then (bif Nat.beq n 17 then (2, 1, 5, 71, 12, 2) else (0, 0, 0, 0, 0, 200)) else (bif Nat.beq n 16 then (1, 1, 7, 93, 12, 10) else (0, 0, 0, 0, 0, 200))) else (bif Nat.beq n 15 then (1, 1, 1, 64, 12, 4) else (0, 0, 0, 0, 0, 200)))) else (bif Nat.ble 12 n then (bif Nat.ble 13 n then (bif Nat.ble 14 n then (bif Nat.beq n 14 then (1, 1, 2, 1035, 12, 8) else (0, 0, 0, 0, 0, 200)) else (bif Nat.beq n 13 then (1, 1, 4, 2186, 12, 5) else (0, 0, 0, 0, 0, 200))) else (bif Nat.beq n 12 then (1, 1, 3, 120, 12, 0) else (0, 0, 0, 0, 0, 200))) else (bif Nat.ble 11 n then (bif Nat.beq n 11 then (2, 1, 0, 0, 12, 7) else (0, 0, 0, 0, 0, 200)) else (bif Nat.beq n 10 then (2, 1, 0, 0, 12, 1) else (0, 0, 0, 0, 0, 200))))) else (bif Nat.ble 5 n then (bif Nat.ble 7 n then (bif Nat.ble 8 n then (bif Nat.ble 9 n then (bif Nat.beq n 9 then (3, 0, 0, 0, 0, 9) else (0, 0, 0, 0, 0, 200)) else (bif Nat.beq n 8 then (3, 0, 0, 0, 0, 200) else (0, 0, 0, 0, 0, 200))) else (bif Nat.beq n 7 then (2, 1, 0, 0, 22, 100) else (0, 0, 0, 0, 0, 200))) else (bif Nat.ble 6 n then (bif Nat.beq n 6 then (2, 2, 0, 0, 43, 200) else (0, 0, 0, 0, 0, 200)) else (bif Nat.beq n 5 then (1, 0, 0, 0, 0, 100) else (0, 0, 0, 0, 0, 200)))) else (bif Nat.ble 2 n then (bif Nat.ble 3 n then (bif Nat.ble 4 n then (bif Nat.beq n 4 then (2, 3, 0, 0, 64, 100) else (0, 0, 0, 0, 0, 200)) else (bif Nat.beq n 3 then (1, 0, 0, 0, 0, 100) else (0, 0, 0, 0, 0, 200))) else (bif Nat.beq n 2 then (1, 1, 0, 0, 20, 100) else (0, 0, 0, 0, 0, 200))) else (bif Nat.ble 1 n then (bif Nat.beq n 1 then (6, 4, 6, 4727, 85, 9) else (0, 0, 0, 0, 0, 200)) else (bif Nat.beq n 0 then (3, 5, 108, 9281, 110, 11) else (0, 0, 0, 0, 0, 200)))))))))
def rvRet : Nat → Option FieldType := fun n => (bif Nat.ble 84 n then (bif Nat.ble 126 n then (bif Nat.ble 147 n then (bif Nat.ble 157 n then (bif Nat.ble 162 n then (bif Nat.ble 165 n then (bif Nat.ble 166 n then (bif Nat.ble 167 n then (bif Nat.beq n 167 then (some .int) else none) else (bif Nat.beq n 166 then (some .int) else none)) else (bif Nat.beq n 165 then (some .boolean) else none)) else (bif Nat.ble 163 n then (bif Nat.ble 164 n then (bif Nat.beq n 164 then (some .boolean) else none) else (bif Nat.beq n 163 then (some .boolean) else none)) else (bif Nat.beq n 162 then (some .boolean) else none))) else (bif Nat.ble 159 n then (bif Nat.ble 160 n then (bif Nat.ble 161 n then (bif Nat.beq n 161 then (some .int) else none) else (bif Nat.beq n 160 then (some .int) else none)) else (bif Nat.beq n 159 then (some .boolean) else none)) else (bif Nat.ble 158 n then (bif Nat.beq n 158 then (some .int) else none) else (bif Nat.beq n 157 then (some .boolean) else none)))) else (bif Nat.ble 152 n then (bif Nat.ble 154 n then (bif Nat.ble 155 n then (bif Nat.ble 156 n then (bif Nat.beq n 156 then (some .boolean) else none) else (bif Nat.beq n 155 then (some .boolean) else none)) else (bif Nat.beq n 154 then (some .int) else none)) else (bif Nat.ble 153 n then (bif Nat.beq n 153 then (some .boolean) else none) else (bif Nat.beq n 152 then (some .boolean) else none))) else (bif Nat.ble 149 n then (bif Nat.ble 150 n then (bif Nat.ble 151 n then (bif Nat.beq n 151 then (some .boolean) else none) else (bif Nat.beq n 150 then (some .boolean) else none)) else (bif Nat.beq n 149 then (some .boolean) else none)) else (bif Nat.ble 148 n then (bif Nat.beq n 148 then (some .int) else none) else (bif Nat.beq n 147 then none else none))))) else (bif Nat.ble 136 n then (bif Nat.ble 141 n then (bif Nat.ble 144 n then (bif Nat.ble 145 n then (bif Nat.ble 146 n then (bif Nat.beq n 146 then (some .int) else none) else (bif Nat.beq n 145 then (some .int) else none)) else (bif Nat.beq n 144 then (some .int) else none)) else (bif Nat.ble 142 n then (bif Nat.ble 143 n then (bif Nat.beq n 143 then (some .int) else none) else (bif Nat.beq n 142 then (some .int) else none)) else (bif Nat.beq n 141 then (some .boolean) else none))) else (bif Nat.ble 138 n then (bif Nat.ble 139 n then (bif Nat.ble 140 n then (bif Nat.beq n 140 then (some .int) else none) else (bif Nat.beq n 139 then (some .int) else none)) else (bif Nat.beq n 138 then (some .int) else none)) else (bif Nat.ble 137 n then (bif Nat.beq n 137 then (some .int) else none) else (bif Nat.beq n 136 then (some .int) else none)))) else (bif Nat.ble 131 n then (bif Nat.ble 133 n then (bif Nat.ble 134 n then (bif Nat.ble 135 n then (bif Nat.beq n 135 then (some .int) else none) else (bif Nat.beq n 134 then (some .int) else none)) else (bif Nat.beq n 133 then (some .int) else none)) else (bif Nat.ble 132 n then (bif Nat.beq n 132 then (some .int) else none) else (bif Nat.beq n 131 then (some .int) else none))) else (bif Nat.ble 128 n then (bif Nat.ble 129 n then (bif Nat.ble 130 n then (bif Nat.beq n 130 then none else none) else (bif Nat.beq n 129 then none else none)) else (bif Nat.beq n 128 then (some .int) else none)) else (bif Nat.ble 127 n then (bif Nat.beq n 127 then (some .int) else none) else (bif Nat.beq n 126 then (some .boolean) else none)))))) else (bif Nat.ble 105 n then (bif Nat.ble 115 n then (bif Nat.ble 120 n then (bif Nat.ble 123 n then (bif Nat.ble 124 n then (bif Nat.ble 125 n then (bif Nat.beq n 125 then (some .int) else none) else (bif Nat.beq n 124 then (some .boolean) else none)) else (bif Nat.beq n 123 then (some .int) else none)) else (bif Nat.ble 121 n then (bif Nat.ble 122 n then (bif Nat.beq n 122 then (some .int) else none) else (bif Nat.beq n 121 then (some .int) else none)) else (bif Nat.beq n 120 then (some .int) else none))) else (bif Nat.ble 117 n then (bif Nat.ble 118 n then (bif Nat.ble 119 n then (bif Nat.beq n 119 then (some .int) else none) else (bif Nat.beq n 118 then (some .int) else none)) else (bif Nat.beq n 117 then (some .boolean) else none)) else (bif Nat.ble 116 n then (bif Nat.beq n 116 then (some .int) else none) else (bif Nat.beq n 115 then (some .int) else none)))) else (bif Nat.ble 110 n then (bif Nat.ble 112 n then (bif Nat.ble 113 n then (bif Nat.ble 114 n then (bif Nat.beq n 114 then (some .int) else none) else (bif Nat.beq n 113 then (some .int) else none)) else (bif Nat.beq n 112 then (some .int) else none)) else (bif Nat.ble 111 n then (bif Nat.beq n 111 then (some .int) else none) else (bif Nat.beq n 110 then (some .int) else none))) else (bif Nat.ble 107 n then (bif Nat.ble 108 n then (bif Nat.ble 109 n then (bif Nat.beq n 109 then (some .int) else none) else (bif Nat.beq n 108 then (some .int) else none)) else (bif Nat.beq n 107 then (some .int) else none)) else (bif Nat.ble 106 n then (bif Nat.beq n 106 then (some .int) else none) else (bif Nat.beq n 105 then (some .int) else none))))) else (bif Nat.ble 94 n then (bif Nat.ble 99 n then (bif Nat.ble 102 n then (bif Nat.ble 103 n then (bif Nat.ble 104 n then (bif Nat.beq n 104 then (some .int) else none) else (bif Nat.beq n 103 then (some .int) else none)) else (bif Nat.beq n 102 then (some .int) else none)) else (bif Nat.ble 100 n then (bif Nat.ble 101 n then (bif Nat.beq n 101 then (some .int) else none) else (bif Nat.beq n 100 then (some .int) else none)) else (bif Nat.beq n 99 then (some .int) else none))) else (bif Nat.ble 96 n then (bif Nat.ble 97 n then (bif Nat.ble 98 n then (bif Nat.beq n 98 then (some .int) else none) else (bif Nat.beq n 97 then (some .int) else none)) else (bif Nat.beq n 96 then (some .int) else none)) else (bif Nat.ble 95 n then (bif Nat.beq n 95 then (some .int) else none) else (bif Nat.beq n 94 then (some .int) else none)))) else (bif Nat.ble 89 n then (bif Nat.ble 91 n then (bif Nat.ble 92 n then (bif Nat.ble 93 n then (bif Nat.beq n 93 then (some .int) else none) else (bif Nat.beq n 92 then (some .int) else none)) else (bif Nat.beq n 91 then none else none)) else (bif Nat.ble 90 n then (bif Nat.beq n 90 then (some .int) else none) else (bif Nat.beq n 89 then none else none))) else (bif Nat.ble 86 n then (bif Nat.ble 87 n then (bif Nat.ble 88 n then (bif Nat.beq n 88 then none else none) else (bif Nat.beq n 87 then (some .int) else none)) else (bif Nat.beq n 86 then (some .int) else none)) else (bif Nat.ble 85 n then (bif Nat.beq n 85 then (some .int) else none) else (bif Nat.beq n 84 then (some .boolean) else none))))))) else (bif Nat.ble 42 n then (bif Nat.ble 63 n then (bif Nat.ble 73 n then (bif Nat.ble 78 n then (bif Nat.ble 81 n then (bif Nat.ble 82 n then (bif Nat.ble 83 n then (bif Nat.beq n 83 then (some .int) else none) else (bif Nat.beq n 82 then (some .int) else none)) else (bif Nat.beq n 81 then (some .int) else none)) else (bif Nat.ble 79 n then (bif Nat.ble 80 n then (bif Nat.beq n 80 then (some .int) else none) else (bif Nat.beq n 79 then (some .int) else none)) else (bif Nat.beq n 78 then (some .int) else none))) else (bif Nat.ble 75 n then (bif Nat.ble 76 n then (bif Nat.ble 77 n then (bif Nat.beq n 77 then (some .int) else none) else (bif Nat.beq n 76 then (some .int) else none)) else (bif Nat.beq n 75 then (some .int) else none)) else (bif Nat.ble 74 n then (bif Nat.beq n 74 then (some .int) else none) else (bif Nat.beq n 73 then (some .int) else none)))) else (bif Nat.ble 68 n then (bif Nat.ble 70 n then (bif Nat.ble 71 n then (bif Nat.ble 72 n then (bif Nat.beq n 72 then (some .int) else none) else (bif Nat.beq n 71 then (some .int) else none)) else (bif Nat.beq n 70 then (some .int) else none)) else (bif Nat.ble 69 n then (bif Nat.beq n 69 then (some .int) else none) else (bif Nat.beq n 68 then (some .int) else none))) else (bif Nat.ble 65 n then (bif Nat.ble 66 n then (bif Nat.ble 67 n then (bif Nat.beq n 67 then (some .int) else none) else (bif Nat.beq n 66 then (some .int) else none)) else (bif Nat.beq n 65 then (some .int) else none)) else (bif Nat.ble 64 n then (bif Nat.beq n 64 then (some .int) else none) else (bif Nat.beq n 63 then (some .int) else none))))) else (bif Nat.ble 52 n then (bif Nat.ble 57 n then (bif Nat.ble 60 n then (bif Nat.ble 61 n then (bif Nat.ble 62 n then (bif Nat.beq n 62 then (some .int) else none) else (bif Nat.beq n 61 then (some .int) else none)) else (bif Nat.beq n 60 then (some .boolean) else none)) else (bif Nat.ble 58 n then (bif Nat.ble 59 n then (bif Nat.beq n 59 then (some .boolean) else none) else (bif Nat.beq n 58 then (some .int) else none)) else (bif Nat.beq n 57 then (some .int) else none))) else (bif Nat.ble 54 n then (bif Nat.ble 55 n then (bif Nat.ble 56 n then (bif Nat.beq n 56 then (some .int) else none) else (bif Nat.beq n 55 then (some .boolean) else none)) else (bif Nat.beq n 54 then none else none)) else (bif Nat.ble 53 n then (bif Nat.beq n 53 then (some .int) else none) else (bif Nat.beq n 52 then (some .boolean) else none)))) else (bif Nat.ble 47 n then (bif Nat.ble 49 n then (bif Nat.ble 50 n then (bif Nat.ble 51 n then (bif Nat.beq n 51 then (some .int) else none) else (bif Nat.beq n 50 then (some .boolean) else none)) else (bif Nat.beq n 49 then (some .boolean) else none)) else (bif Nat.ble 48 n then (bif Nat.beq n 48 then (some .int) else none) else (bif Nat.beq n 47 then (some .boolean) else none))) else (bif Nat.ble 44 n then (bif Nat.ble 45 n then (bif Nat.ble 46 n then (bif Nat.beq n 46 then (some .int) else none) else (bif Nat.beq n 45 then (some .int) else none)) else (bif Nat.beq n 44 then (some .int) else none)) else (bif Nat.ble 43 n then (bif Nat.beq n 43 then (some .int) else none) else (bif Nat.beq n 42 then none else none)))))) else (bif Nat.ble 21 n then (bif Nat.ble 31 n then (bif Nat.ble 36 n then (bif Nat.ble 39 n then (bif Nat.ble 40 n then (bif Nat.ble 41 n then (bif Nat.beq n 41 then none else none) else (bif Nat.beq n 40 then (some .int) else none)) else (bif Nat.beq n 39 then none else none)) else (bif Nat.ble 37 n then (bif Nat.ble 38 n then (bif Nat.beq n 38 then none else none) else (bif Nat.beq n 37 then none else none)) else (bif Nat.beq n 36 then (some .int) else none))) else (bif Nat.ble 33 n then (bif Nat.ble 34 n then (bif Nat.ble 35 n then (bif Nat.beq n 35 then none else none) else (bif Nat.beq n 34 then (some .int) else none)) else (bif Nat.beq n 33 then none else none)) else (bif Nat.ble 32 n then (bif Nat.beq n 32 then none else none) else (bif Nat.beq n 31 then (some .int) else none)))) else (bif Nat.ble 26 n then (bif Nat.ble 28 n then (bif Nat.ble 29 n then (bif Nat.ble 30 n then (bif Nat.beq n 30 then none else none) else (bif Nat.beq n 29 then none else none)) else (bif Nat.beq n 28 then none else none)) else (bif Nat.ble 27 n then (bif Nat.beq n 27 then (some .int) else none) else (bif Nat.beq n 26 then (some .int) else none))) else (bif Nat.ble 23 n then (bif Nat.ble 24 n then (bif Nat.ble 25 n then (bif Nat.beq n 25 then (some .boolean) else none) else (bif Nat.beq n 24 then (some .boolean) else none)) else (bif Nat.beq n 23 then none else none)) else (bif Nat.ble 22 n then (bif Nat.beq n 22 then (some .int) else none) else (bif Nat.beq n 21 then none else none))))) else (bif Nat.ble 10 n then (bif Nat.ble 15 n then (bif Nat.ble 18 n then (bif Nat.ble 19 n then (bif Nat.ble 20 n then (bif Nat.beq n 20 then (some .int) else none) else (bif Nat.beq n 19 then none else none)) else (bif Nat.beq n 18 then none else none)) else (bif Nat.ble 16 n then (bif Nat.ble 17 n then (bif Nat.beq n 17 then none else none) else (bif Nat.beq n 16 then none else none)) else (bif Nat.beq n 15 then none else none))) else (bif Nat.ble 12 n then (bif Nat.ble 13 n then (bif Nat.ble 14 n then (bif Nat.beq n 14 then none else none) else (bif Nat.beq n 13 then none else none)) else (bif Nat.beq n 12 then none else none)) else (bif Nat.ble 11 n then (bif Nat.beq n 11 then none else none) else (bif Nat.beq n 10 then none else none)))) else (bif Nat.ble 5 n then (bif Nat.ble 7 n then (bif Nat.ble 8 n then (bif Nat.ble 9 n then (bif Nat.beq n 9 then (some .long) else none) else (bif Nat.beq n 8 then (some .int) else none)) else (bif Nat.beq n 7 then none else none)) else (bif Nat.ble 6 n then (bif Nat.beq n 6 then (some .char) else none) else (bif Nat.beq n 5 then (some .boolean) else none))) else (bif Nat.ble 2 n then (bif Nat.ble 3 n then (bif Nat.ble 4 n then (bif Nat.beq n 4 then (some .char) else none) else (bif Nat.beq n 3 then (some .byte) else none)) else (bif Nat.beq n 2 then (some .int) else none)) else (bif Nat.ble 1 n then (bif Nat.beq n 1 then none else none) else (bif Nat.beq n 0 then none else none))))))))
def rvYn : Nat → MethodName := fun n => (bif Nat.ble 84 n then (bif Nat.ble 126 n then (bif Nat.ble 147 n then (bif Nat.ble 157 n then (bif Nat.ble 162 n then (bif Nat.ble 165 n then (bif Nat.ble 166 n then (bif Nat.ble 167 n then (bif Nat.beq n 167 then yX12_count else yL_law) else (bif Nat.beq n 166 then yX11_count else yL_law)) else (bif Nat.beq n 165 then yX12_restore else yL_law)) else (bif Nat.ble 163 n then (bif Nat.ble 164 n then (bif Nat.beq n 164 then yX11_restore else yL_law) else (bif Nat.beq n 163 then yX12_image else yL_law)) else (bif Nat.beq n 162 then yX11_image else yL_law))) else (bif Nat.ble 159 n then (bif Nat.ble 160 n then (bif Nat.ble 161 n then (bif Nat.beq n 161 then yX12_said else yL_law) else (bif Nat.beq n 160 then yX11_said else yL_law)) else (bif Nat.beq n 159 then yX12_bad else yL_law)) else (bif Nat.ble 158 n then (bif Nat.beq n 158 then yX12_leafOf else yL_law) else (bif Nat.beq n 157 then yX12_isSign else yL_law)))) else (bif Nat.ble 152 n then (bif Nat.ble 154 n then (bif Nat.ble 155 n then (bif Nat.ble 156 n then (bif Nat.beq n 156 then yX12_isWord else yL_law) else (bif Nat.beq n 155 then yX12_operand else yL_law)) else (bif Nat.beq n 154 then yX12_sentence else yL_law)) else (bif Nat.ble 153 n then (bif Nat.beq n 153 then yX9_fail else yL_law) else (bif Nat.beq n 152 then yX9_isAtSign else yL_law))) else (bif Nat.ble 149 n then (bif Nat.ble 150 n then (bif Nat.ble 151 n then (bif Nat.beq n 151 then yX7_readOne else yL_law) else (bif Nat.beq n 150 then yX7_readAll else yL_law)) else (bif Nat.beq n 149 then yX7_readCond else yL_law)) else (bif Nat.ble 148 n then (bif Nat.beq n 148 then yX7_read else yL_law) else (bif Nat.beq n 147 then yX6_init else yL_law))))) else (bif Nat.ble 136 n then (bif Nat.ble 141 n then (bif Nat.ble 144 n then (bif Nat.ble 145 n then (bif Nat.ble 146 n then (bif Nat.beq n 146 then yX11_sentence else yL_law) else (bif Nat.beq n 145 then yX12_told else yL_law)) else (bif Nat.beq n 144 then yX0_tell else yL_law)) else (bif Nat.ble 142 n then (bif Nat.ble 143 n then (bif Nat.beq n 143 then yX11_told else yL_law) else (bif Nat.beq n 142 then yX0_liveOn else yL_law)) else (bif Nat.beq n 141 then yX0_read else yL_law))) else (bif Nat.ble 138 n then (bif Nat.ble 139 n then (bif Nat.ble 140 n then (bif Nat.beq n 140 then yX12_book else yL_law) else (bif Nat.beq n 139 then yX11_book else yL_law)) else (bif Nat.beq n 138 then yX12_odds else yL_law)) else (bif Nat.ble 137 n then (bif Nat.beq n 137 then yX11_odds else yL_law) else (bif Nat.beq n 136 then yX12_drawn else yL_law)))) else (bif Nat.ble 131 n then (bif Nat.ble 133 n then (bif Nat.ble 134 n then (bif Nat.ble 135 n then (bif Nat.beq n 135 then yX11_drawn else yL_law) else (bif Nat.beq n 134 then yX12_byteAt else yL_law)) else (bif Nat.beq n 133 then yX11_byteAt else yL_law)) else (bif Nat.ble 132 n then (bif Nat.beq n 132 then yX12_plate else yL_law) else (bif Nat.beq n 131 then yX11_plate else yL_law))) else (bif Nat.ble 128 n then (bif Nat.ble 129 n then (bif Nat.ble 130 n then (bif Nat.beq n 130 then yX12_back else yL_law) else (bif Nat.beq n 129 then yX12_tries else yL_law)) else (bif Nat.beq n 128 then yX12_settles else yL_law)) else (bif Nat.ble 127 n then (bif Nat.beq n 127 then yX11_settles else yL_law) else (bif Nat.beq n 126 then yX12_isTram else yL_law)))))) else (bif Nat.ble 105 n then (bif Nat.ble 115 n then (bif Nat.ble 120 n then (bif Nat.ble 123 n then (bif Nat.ble 124 n then (bif Nat.ble 125 n then (bif Nat.beq n 125 then yX12_cut else yL_law) else (bif Nat.beq n 124 then yX11_isTram else yL_law)) else (bif Nat.beq n 123 then yX11_cut else yL_law)) else (bif Nat.ble 121 n then (bif Nat.ble 122 n then (bif Nat.beq n 122 then yX12_look else yL_law) else (bif Nat.beq n 121 then yX11_look else yL_law)) else (bif Nat.beq n 120 then yX12_surely else yL_law))) else (bif Nat.ble 117 n then (bif Nat.ble 118 n then (bif Nat.ble 119 n then (bif Nat.beq n 119 then yX11_surely else yL_law) else (bif Nat.beq n 118 then yX12_counts else yL_law)) else (bif Nat.beq n 117 then yX8_isAsTold else yL_law)) else (bif Nat.ble 116 n then (bif Nat.beq n 116 then yX8_countGroups else yL_law) else (bif Nat.beq n 115 then yX11_counts else yL_law)))) else (bif Nat.ble 110 n then (bif Nat.ble 112 n then (bif Nat.ble 113 n then (bif Nat.ble 114 n then (bif Nat.beq n 114 then yX12_spared else yL_law) else (bif Nat.beq n 113 then yX11_spared else yL_law)) else (bif Nat.beq n 112 then yX12_both else yL_law)) else (bif Nat.ble 111 n then (bif Nat.beq n 111 then yX11_both else yL_law) else (bif Nat.beq n 110 then yX12_house else yL_law))) else (bif Nat.ble 107 n then (bif Nat.ble 108 n then (bif Nat.ble 109 n then (bif Nat.beq n 109 then yX11_house else yL_law) else (bif Nat.beq n 108 then yX12_changed else yL_law)) else (bif Nat.beq n 107 then yX11_changed else yL_law)) else (bif Nat.ble 106 n then (bif Nat.beq n 106 then yX12_changes else yL_law) else (bif Nat.beq n 105 then yX11_changes else yL_law))))) else (bif Nat.ble 94 n then (bif Nat.ble 99 n then (bif Nat.ble 102 n then (bif Nat.ble 103 n then (bif Nat.ble 104 n then (bif Nat.beq n 104 then yX12_familyOf else yL_law) else (bif Nat.beq n 103 then yX11_familyOf else yL_law)) else (bif Nat.beq n 102 then yX12_family else yL_law)) else (bif Nat.ble 100 n then (bif Nat.ble 101 n then (bif Nat.beq n 101 then yX11_family else yL_law) else (bif Nat.beq n 100 then yX12_burdens else yL_law)) else (bif Nat.beq n 99 then yX11_burdens else yL_law))) else (bif Nat.ble 96 n then (bif Nat.ble 97 n then (bif Nat.ble 98 n then (bif Nat.beq n 98 then yX12_who else yL_law) else (bif Nat.beq n 97 then yX11_who else yL_law)) else (bif Nat.beq n 96 then yX12_least else yL_law)) else (bif Nat.ble 95 n then (bif Nat.beq n 95 then yX11_least else yL_law) else (bif Nat.beq n 94 then yX12_undo else yL_law)))) else (bif Nat.ble 89 n then (bif Nat.ble 91 n then (bif Nat.ble 92 n then (bif Nat.ble 93 n then (bif Nat.beq n 93 then yX3_takeBack else yL_law) else (bif Nat.beq n 92 then yX11_undo else yL_law)) else (bif Nat.beq n 91 then yX12_year else yL_law)) else (bif Nat.ble 90 n then (bif Nat.beq n 90 then yX12_goesOn else yL_law) else (bif Nat.beq n 89 then yX12_keep else yL_law))) else (bif Nat.ble 86 n then (bif Nat.ble 87 n then (bif Nat.ble 88 n then (bif Nat.beq n 88 then yX3_keep else yL_law) else (bif Nat.beq n 87 then yX2_goYear else yL_law)) else (bif Nat.beq n 86 then yX2_goYears else yL_law)) else (bif Nat.ble 85 n then (bif Nat.beq n 85 then yX12_years else yL_law) else (bif Nat.beq n 84 then yX11_isWithin else yL_law))))))) else (bif Nat.ble 42 n then (bif Nat.ble 63 n then (bif Nat.ble 73 n then (bif Nat.ble 78 n then (bif Nat.ble 81 n then (bif Nat.ble 82 n then (bif Nat.ble 83 n then (bif Nat.beq n 83 then yX11_years else yL_law) else (bif Nat.beq n 82 then yX12_come else yL_law)) else (bif Nat.beq n 81 then yX11_come else yL_law)) else (bif Nat.ble 79 n then (bif Nat.ble 80 n then (bif Nat.beq n 80 then yX12_comesOrGoes else yL_law) else (bif Nat.beq n 79 then yX12_leave else yL_law)) else (bif Nat.beq n 78 then yX11_leave else yL_law))) else (bif Nat.ble 75 n then (bif Nat.ble 76 n then (bif Nat.ble 77 n then (bif Nat.beq n 77 then yX12_move else yL_law) else (bif Nat.beq n 76 then yX11_move else yL_law)) else (bif Nat.beq n 75 then yX12_take else yL_law)) else (bif Nat.ble 74 n then (bif Nat.beq n 74 then yX11_take else yL_law) else (bif Nat.beq n 73 then yX12_give else yL_law)))) else (bif Nat.ble 68 n then (bif Nat.ble 70 n then (bif Nat.ble 71 n then (bif Nat.ble 72 n then (bif Nat.beq n 72 then yX11_give else yL_law) else (bif Nat.beq n 71 then yX2_burdensOfAll else yL_law)) else (bif Nat.beq n 70 then yX12_offAll else yL_law)) else (bif Nat.ble 69 n then (bif Nat.beq n 69 then yX2_offOfAll else yL_law) else (bif Nat.beq n 68 then yX12_now else yL_law))) else (bif Nat.ble 65 n then (bif Nat.ble 66 n then (bif Nat.ble 67 n then (bif Nat.beq n 67 then yX11_now else yL_law) else (bif Nat.beq n 66 then yX12_off else yL_law)) else (bif Nat.beq n 65 then yX11_off else yL_law)) else (bif Nat.ble 64 n then (bif Nat.beq n 64 then yX12_rest else yL_law) else (bif Nat.beq n 63 then yX11_rest else yL_law))))) else (bif Nat.ble 52 n then (bif Nat.ble 57 n then (bif Nat.ble 60 n then (bif Nat.ble 61 n then (bif Nat.ble 62 n then (bif Nat.beq n 62 then yX12_have else yL_law) else (bif Nat.beq n 61 then yX11_have else yL_law)) else (bif Nat.beq n 60 then yX12_isMark else yL_law)) else (bif Nat.ble 58 n then (bif Nat.ble 59 n then (bif Nat.beq n 59 then yX11_isMark else yL_law) else (bif Nat.beq n 58 then yX12_due else yL_law)) else (bif Nat.beq n 57 then yX11_due else yL_law))) else (bif Nat.ble 54 n then (bif Nat.ble 55 n then (bif Nat.ble 56 n then (bif Nat.beq n 56 then yX12_setMany else yL_law) else (bif Nat.beq n 55 then yX12_isSet else yL_law)) else (bif Nat.beq n 54 then yX12_laysSets else yL_law)) else (bif Nat.ble 53 n then (bif Nat.beq n 53 then yX12_members else yL_law) else (bif Nat.beq n 52 then yX11_isSet else yL_law)))) else (bif Nat.ble 47 n then (bif Nat.ble 49 n then (bif Nat.ble 50 n then (bif Nat.ble 51 n then (bif Nat.beq n 51 then yX11_members else yL_law) else (bif Nat.beq n 50 then yX12_isIn else yL_law)) else (bif Nat.beq n 49 then yX12_isPerson else yL_law)) else (bif Nat.ble 48 n then (bif Nat.beq n 48 then yX12_burden else yL_law) else (bif Nat.beq n 47 then yX11_isPerson else yL_law))) else (bif Nat.ble 44 n then (bif Nat.ble 45 n then (bif Nat.ble 46 n then (bif Nat.beq n 46 then yX11_burden else yL_law) else (bif Nat.beq n 45 then yX12_fault else yL_law)) else (bif Nat.beq n 44 then yX11_fault else yL_law)) else (bif Nat.ble 43 n then (bif Nat.beq n 43 then yX12_peek else yL_law) else (bif Nat.beq n 42 then yX12_next else yL_law)))))) else (bif Nat.ble 21 n then (bif Nat.ble 31 n then (bif Nat.ble 36 n then (bif Nat.ble 39 n then (bif Nat.ble 40 n then (bif Nat.ble 41 n then (bif Nat.beq n 41 then yX12_taken else yL_law) else (bif Nat.beq n 40 then yX12_district else yL_law)) else (bif Nat.beq n 39 then yX3_forget else yL_law)) else (bif Nat.ble 37 n then (bif Nat.ble 38 n then (bif Nat.beq n 38 then yX2_copyFrom else yL_law) else (bif Nat.beq n 37 then yX2_gatherDues else yL_law)) else (bif Nat.beq n 36 then yX10_setCount else yL_law))) else (bif Nat.ble 33 n then (bif Nat.ble 34 n then (bif Nat.ble 35 n then (bif Nat.beq n 35 then yX2_gatherSetsOfEach else yL_law) else (bif Nat.beq n 34 then yX10_everybody else yL_law)) else (bif Nat.beq n 33 then yX2_gatherSets else yL_law)) else (bif Nat.ble 32 n then (bif Nat.beq n 32 then yX9_advance else yL_law) else (bif Nat.beq n 31 then yX9_scanToken else yL_law)))) else (bif Nat.ble 26 n then (bif Nat.ble 28 n then (bif Nat.ble 29 n then (bif Nat.ble 30 n then (bif Nat.beq n 30 then yX9_begin else yL_law) else (bif Nat.beq n 29 then yJ7_fill_53178 else yL_law)) else (bif Nat.beq n 28 then yX2_beginIn else yL_law)) else (bif Nat.ble 27 n then (bif Nat.beq n 27 then yX1_read else yL_law) else (bif Nat.beq n 26 then yX11_district else yL_law))) else (bif Nat.ble 23 n then (bif Nat.ble 24 n then (bif Nat.ble 25 n then (bif Nat.beq n 25 then yX12_end else yL_law) else (bif Nat.beq n 24 then yX11_end else yL_law)) else (bif Nat.beq n 23 then yX12_four else yL_law)) else (bif Nat.ble 22 n then (bif Nat.beq n 22 then yX12_feed else yL_law) else (bif Nat.beq n 21 then yX9_putNumber else yL_law))))) else (bif Nat.ble 10 n then (bif Nat.ble 15 n then (bif Nat.ble 18 n then (bif Nat.ble 19 n then (bif Nat.ble 20 n then (bif Nat.beq n 20 then yX11_feed else yL_law) else (bif Nat.beq n 19 then yX12_init else yL_law)) else (bif Nat.beq n 18 then yX3_init else yL_law)) else (bif Nat.ble 16 n then (bif Nat.ble 17 n then (bif Nat.beq n 17 then yX2_init else yL_law) else (bif Nat.beq n 16 then yX10_init else yL_law)) else (bif Nat.beq n 15 then yX4_init else yL_law))) else (bif Nat.ble 12 n then (bif Nat.ble 13 n then (bif Nat.ble 14 n then (bif Nat.beq n 14 then yX8_init else yL_law) else (bif Nat.beq n 13 then yX5_init else yL_law)) else (bif Nat.beq n 12 then yX0_init else yL_law)) else (bif Nat.ble 11 n then (bif Nat.beq n 11 then yX7_init else yL_law) else (bif Nat.beq n 10 then yX1_init else yL_law)))) else (bif Nat.ble 5 n then (bif Nat.ble 7 n then (bif Nat.ble 8 n then (bif Nat.ble 9 n then (bif Nat.beq n 9 then yX9_withLetter else yL_law) else (bif Nat.beq n 8 then yJ3_checkIndex_8e157 else yL_law)) else (bif Nat.beq n 7 then yJ0_checkIndex_df160 else yL_law)) else (bif Nat.ble 6 n then (bif Nat.beq n 6 then yJ1_charAt_3b067 else yL_law) else (bif Nat.beq n 5 then yJ0_isLatin1_aae02 else yL_law))) else (bif Nat.ble 2 n then (bif Nat.ble 3 n then (bif Nat.ble 4 n then (bif Nat.beq n 4 then yJ0_charAt_5068e else yL_law) else (bif Nat.beq n 3 then yJ0_coder_7d493 else yL_law)) else (bif Nat.beq n 2 then yJ0_length_8abf5 else yL_law)) else (bif Nat.ble 1 n then (bif Nat.beq n 1 then yX9_init else yL_law) else (bif Nat.beq n 0 then yX11_init else yL_law))))))))
def rvKd : Nat → Nat × Nat := fun n => (bif Nat.ble 84 n then (bif Nat.ble 126 n then (bif Nat.ble 147 n then (bif Nat.ble 157 n then (bif Nat.ble 162 n then (bif Nat.ble 165 n then (bif Nat.ble 166 n then (bif Nat.ble 167 n then (bif Nat.beq n 167 then (0, 1) else (9, 0)) else (bif Nat.beq n 166 then (0, 1) else (9, 0))) else (bif Nat.beq n 165 then (0, 1) else (9, 0))) else (bif Nat.ble 163 n then (bif Nat.ble 164 n then (bif Nat.beq n 164 then (0, 1) else (9, 0)) else (bif Nat.beq n 163 then (0, 1) else (9, 0))) else (bif Nat.beq n 162 then (0, 1) else (9, 0)))) else (bif Nat.ble 159 n then (bif Nat.ble 160 n then (bif Nat.ble 161 n then (bif Nat.beq n 161 then (0, 1) else (9, 0)) else (bif Nat.beq n 160 then (0, 1) else (9, 0))) else (bif Nat.beq n 159 then (0, 1) else (9, 0))) else (bif Nat.ble 158 n then (bif Nat.beq n 158 then (0, 0) else (9, 0)) else (bif Nat.beq n 157 then (0, 1) else (9, 0))))) else (bif Nat.ble 152 n then (bif Nat.ble 154 n then (bif Nat.ble 155 n then (bif Nat.ble 156 n then (bif Nat.beq n 156 then (0, 1) else (9, 0)) else (bif Nat.beq n 155 then (0, 0) else (9, 0))) else (bif Nat.beq n 154 then (0, 0) else (9, 0))) else (bif Nat.ble 153 n then (bif Nat.beq n 153 then (0, 1) else (9, 0)) else (bif Nat.beq n 152 then (0, 1) else (9, 0)))) else (bif Nat.ble 149 n then (bif Nat.ble 150 n then (bif Nat.ble 151 n then (bif Nat.beq n 151 then (0, 1) else (9, 0)) else (bif Nat.beq n 150 then (0, 1) else (9, 0))) else (bif Nat.beq n 149 then (0, 1) else (9, 0))) else (bif Nat.ble 148 n then (bif Nat.beq n 148 then (0, 2) else (9, 0)) else (bif Nat.beq n 147 then (2, 0) else (9, 0)))))) else (bif Nat.ble 136 n then (bif Nat.ble 141 n then (bif Nat.ble 144 n then (bif Nat.ble 145 n then (bif Nat.ble 146 n then (bif Nat.beq n 146 then (0, 0) else (9, 0)) else (bif Nat.beq n 145 then (0, 1) else (9, 0))) else (bif Nat.beq n 144 then (0, 1) else (9, 0))) else (bif Nat.ble 142 n then (bif Nat.ble 143 n then (bif Nat.beq n 143 then (0, 1) else (9, 0)) else (bif Nat.beq n 142 then (0, 1) else (9, 0))) else (bif Nat.beq n 141 then (0, 2) else (9, 0)))) else (bif Nat.ble 138 n then (bif Nat.ble 139 n then (bif Nat.ble 140 n then (bif Nat.beq n 140 then (0, 1) else (9, 0)) else (bif Nat.beq n 139 then (0, 1) else (9, 0))) else (bif Nat.beq n 138 then (0, 3) else (9, 0))) else (bif Nat.ble 137 n then (bif Nat.beq n 137 then (0, 3) else (9, 0)) else (bif Nat.beq n 136 then (0, 2) else (9, 0))))) else (bif Nat.ble 131 n then (bif Nat.ble 133 n then (bif Nat.ble 134 n then (bif Nat.ble 135 n then (bif Nat.beq n 135 then (0, 2) else (9, 0)) else (bif Nat.beq n 134 then (0, 1) else (9, 0))) else (bif Nat.beq n 133 then (0, 1) else (9, 0))) else (bif Nat.ble 132 n then (bif Nat.beq n 132 then (0, 1) else (9, 0)) else (bif Nat.beq n 131 then (0, 1) else (9, 0)))) else (bif Nat.ble 128 n then (bif Nat.ble 129 n then (bif Nat.ble 130 n then (bif Nat.beq n 130 then (0, 0) else (9, 0)) else (bif Nat.beq n 129 then (0, 0) else (9, 0))) else (bif Nat.beq n 128 then (0, 0) else (9, 0))) else (bif Nat.ble 127 n then (bif Nat.beq n 127 then (0, 0) else (9, 0)) else (bif Nat.beq n 126 then (0, 1) else (9, 0))))))) else (bif Nat.ble 105 n then (bif Nat.ble 115 n then (bif Nat.ble 120 n then (bif Nat.ble 123 n then (bif Nat.ble 124 n then (bif Nat.ble 125 n then (bif Nat.beq n 125 then (0, 2) else (9, 0)) else (bif Nat.beq n 124 then (0, 1) else (9, 0))) else (bif Nat.beq n 123 then (0, 2) else (9, 0))) else (bif Nat.ble 121 n then (bif Nat.ble 122 n then (bif Nat.beq n 122 then (0, 0) else (9, 0)) else (bif Nat.beq n 121 then (0, 0) else (9, 0))) else (bif Nat.beq n 120 then (0, 0) else (9, 0)))) else (bif Nat.ble 117 n then (bif Nat.ble 118 n then (bif Nat.ble 119 n then (bif Nat.beq n 119 then (0, 0) else (9, 0)) else (bif Nat.beq n 118 then (0, 0) else (9, 0))) else (bif Nat.beq n 117 then (1, 2) else (9, 0))) else (bif Nat.ble 116 n then (bif Nat.beq n 116 then (0, 2) else (9, 0)) else (bif Nat.beq n 115 then (0, 0) else (9, 0))))) else (bif Nat.ble 110 n then (bif Nat.ble 112 n then (bif Nat.ble 113 n then (bif Nat.ble 114 n then (bif Nat.beq n 114 then (0, 3) else (9, 0)) else (bif Nat.beq n 113 then (0, 3) else (9, 0))) else (bif Nat.beq n 112 then (0, 2) else (9, 0))) else (bif Nat.ble 111 n then (bif Nat.beq n 111 then (0, 2) else (9, 0)) else (bif Nat.beq n 110 then (0, 1) else (9, 0)))) else (bif Nat.ble 107 n then (bif Nat.ble 108 n then (bif Nat.ble 109 n then (bif Nat.beq n 109 then (0, 1) else (9, 0)) else (bif Nat.beq n 108 then (0, 0) else (9, 0))) else (bif Nat.beq n 107 then (0, 0) else (9, 0))) else (bif Nat.ble 106 n then (bif Nat.beq n 106 then (0, 1) else (9, 0)) else (bif Nat.beq n 105 then (0, 1) else (9, 0)))))) else (bif Nat.ble 94 n then (bif Nat.ble 99 n then (bif Nat.ble 102 n then (bif Nat.ble 103 n then (bif Nat.ble 104 n then (bif Nat.beq n 104 then (0, 0) else (9, 0)) else (bif Nat.beq n 103 then (0, 0) else (9, 0))) else (bif Nat.beq n 102 then (0, 1) else (9, 0))) else (bif Nat.ble 100 n then (bif Nat.ble 101 n then (bif Nat.beq n 101 then (0, 1) else (9, 0)) else (bif Nat.beq n 100 then (0, 0) else (9, 0))) else (bif Nat.beq n 99 then (0, 0) else (9, 0)))) else (bif Nat.ble 96 n then (bif Nat.ble 97 n then (bif Nat.ble 98 n then (bif Nat.beq n 98 then (0, 0) else (9, 0)) else (bif Nat.beq n 97 then (0, 0) else (9, 0))) else (bif Nat.beq n 96 then (0, 1) else (9, 0))) else (bif Nat.ble 95 n then (bif Nat.beq n 95 then (0, 1) else (9, 0)) else (bif Nat.beq n 94 then (0, 0) else (9, 0))))) else (bif Nat.ble 89 n then (bif Nat.ble 91 n then (bif Nat.ble 92 n then (bif Nat.ble 93 n then (bif Nat.beq n 93 then (0, 1) else (9, 0)) else (bif Nat.beq n 92 then (0, 0) else (9, 0))) else (bif Nat.beq n 91 then (0, 0) else (9, 0))) else (bif Nat.ble 90 n then (bif Nat.beq n 90 then (0, 1) else (9, 0)) else (bif Nat.beq n 89 then (0, 0) else (9, 0)))) else (bif Nat.ble 86 n then (bif Nat.ble 87 n then (bif Nat.ble 88 n then (bif Nat.beq n 88 then (0, 1) else (9, 0)) else (bif Nat.beq n 87 then (0, 0) else (9, 0))) else (bif Nat.beq n 86 then (0, 1) else (9, 0))) else (bif Nat.ble 85 n then (bif Nat.beq n 85 then (0, 1) else (9, 0)) else (bif Nat.beq n 84 then (1, 3) else (9, 0)))))))) else (bif Nat.ble 42 n then (bif Nat.ble 63 n then (bif Nat.ble 73 n then (bif Nat.ble 78 n then (bif Nat.ble 81 n then (bif Nat.ble 82 n then (bif Nat.ble 83 n then (bif Nat.beq n 83 then (0, 1) else (9, 0)) else (bif Nat.beq n 82 then (0, 1) else (9, 0))) else (bif Nat.beq n 81 then (0, 1) else (9, 0))) else (bif Nat.ble 79 n then (bif Nat.ble 80 n then (bif Nat.beq n 80 then (0, 2) else (9, 0)) else (bif Nat.beq n 79 then (0, 1) else (9, 0))) else (bif Nat.beq n 78 then (0, 1) else (9, 0)))) else (bif Nat.ble 75 n then (bif Nat.ble 76 n then (bif Nat.ble 77 n then (bif Nat.beq n 77 then (0, 2) else (9, 0)) else (bif Nat.beq n 76 then (0, 2) else (9, 0))) else (bif Nat.beq n 75 then (0, 2) else (9, 0))) else (bif Nat.ble 74 n then (bif Nat.beq n 74 then (0, 2) else (9, 0)) else (bif Nat.beq n 73 then (0, 2) else (9, 0))))) else (bif Nat.ble 68 n then (bif Nat.ble 70 n then (bif Nat.ble 71 n then (bif Nat.ble 72 n then (bif Nat.beq n 72 then (0, 2) else (9, 0)) else (bif Nat.beq n 71 then (0, 0) else (9, 0))) else (bif Nat.beq n 70 then (0, 0) else (9, 0))) else (bif Nat.ble 69 n then (bif Nat.beq n 69 then (0, 0) else (9, 0)) else (bif Nat.beq n 68 then (0, 1) else (9, 0)))) else (bif Nat.ble 65 n then (bif Nat.ble 66 n then (bif Nat.ble 67 n then (bif Nat.beq n 67 then (0, 1) else (9, 0)) else (bif Nat.beq n 66 then (0, 1) else (9, 0))) else (bif Nat.beq n 65 then (0, 1) else (9, 0))) else (bif Nat.ble 64 n then (bif Nat.beq n 64 then (0, 2) else (9, 0)) else (bif Nat.beq n 63 then (0, 2) else (9, 0)))))) else (bif Nat.ble 52 n then (bif Nat.ble 57 n then (bif Nat.ble 60 n then (bif Nat.ble 61 n then (bif Nat.ble 62 n then (bif Nat.beq n 62 then (0, 2) else (9, 0)) else (bif Nat.beq n 61 then (0, 2) else (9, 0))) else (bif Nat.beq n 60 then (0, 1) else (9, 0))) else (bif Nat.ble 58 n then (bif Nat.ble 59 n then (bif Nat.beq n 59 then (0, 1) else (9, 0)) else (bif Nat.beq n 58 then (0, 2) else (9, 0))) else (bif Nat.beq n 57 then (0, 2) else (9, 0)))) else (bif Nat.ble 54 n then (bif Nat.ble 55 n then (bif Nat.ble 56 n then (bif Nat.beq n 56 then (0, 0) else (9, 0)) else (bif Nat.beq n 55 then (0, 1) else (9, 0))) else (bif Nat.beq n 54 then (0, 0) else (9, 0))) else (bif Nat.ble 53 n then (bif Nat.beq n 53 then (0, 1) else (9, 0)) else (bif Nat.beq n 52 then (0, 1) else (9, 0))))) else (bif Nat.ble 47 n then (bif Nat.ble 49 n then (bif Nat.ble 50 n then (bif Nat.ble 51 n then (bif Nat.beq n 51 then (0, 1) else (9, 0)) else (bif Nat.beq n 50 then (1, 3) else (9, 0))) else (bif Nat.beq n 49 then (0, 1) else (9, 0))) else (bif Nat.ble 48 n then (bif Nat.beq n 48 then (0, 2) else (9, 0)) else (bif Nat.beq n 47 then (0, 1) else (9, 0)))) else (bif Nat.ble 44 n then (bif Nat.ble 45 n then (bif Nat.ble 46 n then (bif Nat.beq n 46 then (0, 2) else (9, 0)) else (bif Nat.beq n 45 then (0, 0) else (9, 0))) else (bif Nat.beq n 44 then (0, 0) else (9, 0))) else (bif Nat.ble 43 n then (bif Nat.beq n 43 then (0, 0) else (9, 0)) else (bif Nat.beq n 42 then (0, 0) else (9, 0))))))) else (bif Nat.ble 21 n then (bif Nat.ble 31 n then (bif Nat.ble 36 n then (bif Nat.ble 39 n then (bif Nat.ble 40 n then (bif Nat.ble 41 n then (bif Nat.beq n 41 then (0, 1) else (9, 0)) else (bif Nat.beq n 40 then (0, 0) else (9, 0))) else (bif Nat.beq n 39 then (0, 0) else (9, 0))) else (bif Nat.ble 37 n then (bif Nat.ble 38 n then (bif Nat.beq n 38 then (0, 1) else (9, 0)) else (bif Nat.beq n 37 then (0, 0) else (9, 0))) else (bif Nat.beq n 36 then (0, 0) else (9, 0)))) else (bif Nat.ble 33 n then (bif Nat.ble 34 n then (bif Nat.ble 35 n then (bif Nat.beq n 35 then (0, 0) else (9, 0)) else (bif Nat.beq n 34 then (0, 0) else (9, 0))) else (bif Nat.beq n 33 then (0, 0) else (9, 0))) else (bif Nat.ble 32 n then (bif Nat.beq n 32 then (0, 0) else (9, 0)) else (bif Nat.beq n 31 then (0, 1) else (9, 0))))) else (bif Nat.ble 26 n then (bif Nat.ble 28 n then (bif Nat.ble 29 n then (bif Nat.ble 30 n then (bif Nat.beq n 30 then (0, 1) else (9, 0)) else (bif Nat.beq n 29 then (1, 2) else (9, 0))) else (bif Nat.beq n 28 then (0, 1) else (9, 0))) else (bif Nat.ble 27 n then (bif Nat.beq n 27 then (0, 1) else (9, 0)) else (bif Nat.beq n 26 then (0, 0) else (9, 0)))) else (bif Nat.ble 23 n then (bif Nat.ble 24 n then (bif Nat.ble 25 n then (bif Nat.beq n 25 then (0, 1) else (9, 0)) else (bif Nat.beq n 24 then (0, 1) else (9, 0))) else (bif Nat.beq n 23 then (0, 1) else (9, 0))) else (bif Nat.ble 22 n then (bif Nat.beq n 22 then (0, 5) else (9, 0)) else (bif Nat.beq n 21 then (0, 1) else (9, 0)))))) else (bif Nat.ble 10 n then (bif Nat.ble 15 n then (bif Nat.ble 18 n then (bif Nat.ble 19 n then (bif Nat.ble 20 n then (bif Nat.beq n 20 then (0, 5) else (9, 0)) else (bif Nat.beq n 19 then (2, 0) else (9, 0))) else (bif Nat.beq n 18 then (2, 1) else (9, 0))) else (bif Nat.ble 16 n then (bif Nat.ble 17 n then (bif Nat.beq n 17 then (2, 1) else (9, 0)) else (bif Nat.beq n 16 then (2, 0) else (9, 0))) else (bif Nat.beq n 15 then (2, 0) else (9, 0)))) else (bif Nat.ble 12 n then (bif Nat.ble 13 n then (bif Nat.ble 14 n then (bif Nat.beq n 14 then (2, 0) else (9, 0)) else (bif Nat.beq n 13 then (2, 0) else (9, 0))) else (bif Nat.beq n 12 then (2, 0) else (9, 0))) else (bif Nat.ble 11 n then (bif Nat.beq n 11 then (2, 1) else (9, 0)) else (bif Nat.beq n 10 then (2, 1) else (9, 0))))) else (bif Nat.ble 5 n then (bif Nat.ble 7 n then (bif Nat.ble 8 n then (bif Nat.ble 9 n then (bif Nat.beq n 9 then (1, 2) else (9, 0)) else (bif Nat.beq n 8 then (1, 3) else (9, 0))) else (bif Nat.beq n 7 then (1, 2) else (9, 0))) else (bif Nat.ble 6 n then (bif Nat.beq n 6 then (1, 2) else (9, 0)) else (bif Nat.beq n 5 then (0, 0) else (9, 0)))) else (bif Nat.ble 2 n then (bif Nat.ble 3 n then (bif Nat.ble 4 n then (bif Nat.beq n 4 then (0, 1) else (9, 0)) else (bif Nat.beq n 3 then (0, 0) else (9, 0))) else (bif Nat.beq n 2 then (0, 0) else (9, 0))) else (bif Nat.ble 1 n then (bif Nat.beq n 1 then (2, 0) else (9, 0)) else (bif Nat.beq n 0 then (2, 0) else (9, 0)))))))))
def rvMi : Nat → Nat × Nat × Nat × Nat := fun n => (bif Nat.ble 84 n then (bif Nat.ble 126 n then (bif Nat.ble 147 n then (bif Nat.ble 157 n then (bif Nat.ble 162 n then (bif Nat.ble 165 n then (bif Nat.ble 166 n then (bif Nat.ble 167 n then (bif Nat.beq n 167 then (2078, 135, 2076, 2077) else (0, 0, 0, 0)) else (bif Nat.beq n 166 then (980, 120, 978, 979) else (0, 0, 0, 0))) else (bif Nat.beq n 165 then (2074, 135, 2072, 2073) else (0, 0, 0, 0))) else (bif Nat.ble 163 n then (bif Nat.ble 164 n then (bif Nat.beq n 164 then (1151, 120, 1149, 1150) else (0, 0, 0, 0)) else (bif Nat.beq n 163 then (2070, 135, 2068, 2069) else (0, 0, 0, 0))) else (bif Nat.beq n 162 then (1147, 120, 1145, 1146) else (0, 0, 0, 0)))) else (bif Nat.ble 159 n then (bif Nat.ble 160 n then (bif Nat.ble 161 n then (bif Nat.beq n 161 then (2058, 135, 2056, 2057) else (0, 0, 0, 0)) else (bif Nat.beq n 160 then (953, 120, 951, 952) else (0, 0, 0, 0))) else (bif Nat.beq n 159 then (1638, 135, 1637, 55) else (0, 0, 0, 0))) else (bif Nat.ble 158 n then (bif Nat.beq n 158 then (2054, 135, 2053, 116) else (0, 0, 0, 0)) else (bif Nat.beq n 157 then (1695, 135, 1694, 67) else (0, 0, 0, 0))))) else (bif Nat.ble 152 n then (bif Nat.ble 154 n then (bif Nat.ble 155 n then (bif Nat.ble 156 n then (bif Nat.beq n 156 then (1630, 135, 1629, 53) else (0, 0, 0, 0)) else (bif Nat.beq n 155 then (2050, 135, 2049, 115) else (0, 0, 0, 0))) else (bif Nat.beq n 154 then (2030, 135, 2028, 2029) else (0, 0, 0, 0))) else (bif Nat.ble 153 n then (bif Nat.beq n 153 then (700, 121, 698, 699) else (0, 0, 0, 0)) else (bif Nat.beq n 152 then (772, 121, 770, 771) else (0, 0, 0, 0)))) else (bif Nat.ble 149 n then (bif Nat.ble 150 n then (bif Nat.ble 151 n then (bif Nat.beq n 151 then (926, 127, 925, 21) else (0, 0, 0, 0)) else (bif Nat.beq n 150 then (922, 127, 921, 20) else (0, 0, 0, 0))) else (bif Nat.beq n 149 then (918, 127, 917, 19) else (0, 0, 0, 0))) else (bif Nat.ble 148 n then (bif Nat.beq n 148 then (913, 127, 911, 912) else (0, 0, 0, 0)) else (bif Nat.beq n 147 then (892, 144, 891, 0) else (0, 0, 0, 0)))))) else (bif Nat.ble 136 n then (bif Nat.ble 141 n then (bif Nat.ble 144 n then (bif Nat.ble 145 n then (bif Nat.ble 146 n then (bif Nat.beq n 146 then (888, 120, 886, 887) else (0, 0, 0, 0)) else (bif Nat.beq n 145 then (2026, 135, 2024, 2025) else (0, 0, 0, 0))) else (bif Nat.beq n 144 then (884, 128, 882, 883) else (0, 0, 0, 0))) else (bif Nat.ble 142 n then (bif Nat.ble 143 n then (bif Nat.beq n 143 then (880, 120, 878, 879) else (0, 0, 0, 0)) else (bif Nat.beq n 142 then (819, 128, 817, 818) else (0, 0, 0, 0))) else (bif Nat.beq n 141 then (795, 128, 793, 794) else (0, 0, 0, 0)))) else (bif Nat.ble 138 n then (bif Nat.ble 139 n then (bif Nat.ble 140 n then (bif Nat.beq n 140 then (2014, 135, 2012, 2013) else (0, 0, 0, 0)) else (bif Nat.beq n 139 then (791, 120, 789, 790) else (0, 0, 0, 0))) else (bif Nat.beq n 138 then (2010, 135, 2008, 2009) else (0, 0, 0, 0))) else (bif Nat.ble 137 n then (bif Nat.beq n 137 then (1308, 120, 1306, 1307) else (0, 0, 0, 0)) else (bif Nat.beq n 136 then (1993, 135, 1991, 1992) else (0, 0, 0, 0))))) else (bif Nat.ble 131 n then (bif Nat.ble 133 n then (bif Nat.ble 134 n then (bif Nat.ble 135 n then (bif Nat.beq n 135 then (1117, 120, 1115, 1116) else (0, 0, 0, 0)) else (bif Nat.beq n 134 then (1989, 135, 1987, 1988) else (0, 0, 0, 0))) else (bif Nat.beq n 133 then (1078, 120, 1076, 1077) else (0, 0, 0, 0))) else (bif Nat.ble 132 n then (bif Nat.beq n 132 then (1970, 135, 1968, 1969) else (0, 0, 0, 0)) else (bif Nat.beq n 131 then (1045, 120, 1043, 1044) else (0, 0, 0, 0)))) else (bif Nat.ble 128 n then (bif Nat.ble 129 n then (bif Nat.ble 130 n then (bif Nat.beq n 130 then (1966, 135, 1965, 102) else (0, 0, 0, 0)) else (bif Nat.beq n 129 then (1962, 135, 1961, 101) else (0, 0, 0, 0))) else (bif Nat.beq n 128 then (1958, 135, 1956, 1957) else (0, 0, 0, 0))) else (bif Nat.ble 127 n then (bif Nat.beq n 127 then (1303, 120, 1301, 1302) else (0, 0, 0, 0)) else (bif Nat.beq n 126 then (1954, 135, 1953, 100) else (0, 0, 0, 0))))))) else (bif Nat.ble 105 n then (bif Nat.ble 115 n then (bif Nat.ble 120 n then (bif Nat.ble 123 n then (bif Nat.ble 124 n then (bif Nat.ble 125 n then (bif Nat.beq n 125 then (1950, 135, 1948, 1949) else (0, 0, 0, 0)) else (bif Nat.beq n 124 then (1295, 120, 1294, 46) else (0, 0, 0, 0))) else (bif Nat.beq n 123 then (1291, 120, 1289, 1290) else (0, 0, 0, 0))) else (bif Nat.ble 121 n then (bif Nat.ble 122 n then (bif Nat.beq n 122 then (1946, 135, 1944, 1945) else (0, 0, 0, 0)) else (bif Nat.beq n 121 then (1287, 120, 1285, 1286) else (0, 0, 0, 0))) else (bif Nat.beq n 120 then (1942, 135, 1940, 1941) else (0, 0, 0, 0)))) else (bif Nat.ble 117 n then (bif Nat.ble 118 n then (bif Nat.ble 119 n then (bif Nat.beq n 119 then (1283, 120, 1281, 1282) else (0, 0, 0, 0)) else (bif Nat.beq n 118 then (1926, 135, 1924, 1925) else (0, 0, 0, 0))) else (bif Nat.beq n 117 then (1259, 130, 1258, 0) else (0, 0, 0, 0))) else (bif Nat.ble 116 n then (bif Nat.beq n 116 then (1256, 130, 1254, 1255) else (0, 0, 0, 0)) else (bif Nat.beq n 115 then (1252, 120, 1250, 1251) else (0, 0, 0, 0))))) else (bif Nat.ble 110 n then (bif Nat.ble 112 n then (bif Nat.ble 113 n then (bif Nat.ble 114 n then (bif Nat.beq n 114 then (1922, 135, 1920, 1921) else (0, 0, 0, 0)) else (bif Nat.beq n 113 then (1244, 120, 1242, 1243) else (0, 0, 0, 0))) else (bif Nat.beq n 112 then (1913, 135, 1911, 1912) else (0, 0, 0, 0))) else (bif Nat.ble 111 n then (bif Nat.beq n 111 then (1232, 120, 1230, 1231) else (0, 0, 0, 0)) else (bif Nat.beq n 110 then (1905, 135, 1903, 1904) else (0, 0, 0, 0)))) else (bif Nat.ble 107 n then (bif Nat.ble 108 n then (bif Nat.ble 109 n then (bif Nat.beq n 109 then (1227, 120, 1225, 1226) else (0, 0, 0, 0)) else (bif Nat.beq n 108 then (1901, 135, 1899, 1900) else (0, 0, 0, 0))) else (bif Nat.beq n 107 then (1223, 120, 1221, 1222) else (0, 0, 0, 0))) else (bif Nat.ble 106 n then (bif Nat.beq n 106 then (1897, 135, 1895, 1896) else (0, 0, 0, 0)) else (bif Nat.beq n 105 then (1215, 120, 1213, 1214) else (0, 0, 0, 0)))))) else (bif Nat.ble 94 n then (bif Nat.ble 99 n then (bif Nat.ble 102 n then (bif Nat.ble 103 n then (bif Nat.ble 104 n then (bif Nat.beq n 104 then (1893, 135, 1891, 1892) else (0, 0, 0, 0)) else (bif Nat.beq n 103 then (1211, 120, 1209, 1210) else (0, 0, 0, 0))) else (bif Nat.beq n 102 then (1885, 135, 1883, 1884) else (0, 0, 0, 0))) else (bif Nat.ble 100 n then (bif Nat.ble 101 n then (bif Nat.beq n 101 then (1193, 120, 1191, 1192) else (0, 0, 0, 0)) else (bif Nat.beq n 100 then (1881, 135, 1879, 1880) else (0, 0, 0, 0))) else (bif Nat.beq n 99 then (1189, 120, 1187, 1188) else (0, 0, 0, 0)))) else (bif Nat.ble 96 n then (bif Nat.ble 97 n then (bif Nat.ble 98 n then (bif Nat.beq n 98 then (1877, 135, 1875, 1876) else (0, 0, 0, 0)) else (bif Nat.beq n 97 then (1185, 120, 1183, 1184) else (0, 0, 0, 0))) else (bif Nat.beq n 96 then (1861, 135, 1859, 1860) else (0, 0, 0, 0))) else (bif Nat.ble 95 n then (bif Nat.beq n 95 then (1155, 120, 1153, 1154) else (0, 0, 0, 0)) else (bif Nat.beq n 94 then (1857, 135, 1855, 1856) else (0, 0, 0, 0))))) else (bif Nat.ble 89 n then (bif Nat.ble 91 n then (bif Nat.ble 92 n then (bif Nat.ble 93 n then (bif Nat.beq n 93 then (1143, 134, 1141, 1142) else (0, 0, 0, 0)) else (bif Nat.beq n 92 then (1139, 120, 1137, 1138) else (0, 0, 0, 0))) else (bif Nat.beq n 91 then (1849, 135, 1848, 89) else (0, 0, 0, 0))) else (bif Nat.ble 90 n then (bif Nat.beq n 90 then (1845, 135, 1844, 88) else (0, 0, 0, 0)) else (bif Nat.beq n 89 then (1805, 135, 1804, 83) else (0, 0, 0, 0)))) else (bif Nat.ble 86 n then (bif Nat.ble 87 n then (bif Nat.ble 88 n then (bif Nat.beq n 88 then (871, 134, 869, 870) else (0, 0, 0, 0)) else (bif Nat.beq n 87 then (831, 133, 829, 830) else (0, 0, 0, 0))) else (bif Nat.beq n 86 then (827, 133, 825, 826) else (0, 0, 0, 0))) else (bif Nat.ble 85 n then (bif Nat.beq n 85 then (1841, 135, 1839, 1840) else (0, 0, 0, 0)) else (bif Nat.beq n 84 then (744, 120, 743, 0) else (0, 0, 0, 0)))))))) else (bif Nat.ble 42 n then (bif Nat.ble 63 n then (bif Nat.ble 73 n then (bif Nat.ble 78 n then (bif Nat.ble 81 n then (bif Nat.ble 82 n then (bif Nat.ble 83 n then (bif Nat.beq n 83 then (1111, 120, 1109, 1110) else (0, 0, 0, 0)) else (bif Nat.beq n 82 then (1837, 135, 1835, 1836) else (0, 0, 0, 0))) else (bif Nat.beq n 81 then (1107, 120, 1105, 1106) else (0, 0, 0, 0))) else (bif Nat.ble 79 n then (bif Nat.ble 80 n then (bif Nat.beq n 80 then (1833, 135, 1832, 87) else (0, 0, 0, 0)) else (bif Nat.beq n 79 then (1829, 135, 1827, 1828) else (0, 0, 0, 0))) else (bif Nat.beq n 78 then (1103, 120, 1101, 1102) else (0, 0, 0, 0)))) else (bif Nat.ble 75 n then (bif Nat.ble 76 n then (bif Nat.ble 77 n then (bif Nat.beq n 77 then (1817, 135, 1815, 1816) else (0, 0, 0, 0)) else (bif Nat.beq n 76 then (1095, 120, 1093, 1094) else (0, 0, 0, 0))) else (bif Nat.beq n 75 then (1809, 135, 1807, 1808) else (0, 0, 0, 0))) else (bif Nat.ble 74 n then (bif Nat.beq n 74 then (1091, 120, 1089, 1090) else (0, 0, 0, 0)) else (bif Nat.beq n 73 then (1797, 135, 1795, 1796) else (0, 0, 0, 0))))) else (bif Nat.ble 68 n then (bif Nat.ble 70 n then (bif Nat.ble 71 n then (bif Nat.ble 72 n then (bif Nat.beq n 72 then (1082, 120, 1080, 1081) else (0, 0, 0, 0)) else (bif Nat.beq n 71 then (1036, 133, 1034, 1035) else (0, 0, 0, 0))) else (bif Nat.beq n 70 then (1793, 135, 1792, 81) else (0, 0, 0, 0))) else (bif Nat.ble 69 n then (bif Nat.beq n 69 then (856, 133, 854, 855) else (0, 0, 0, 0)) else (bif Nat.beq n 68 then (1789, 135, 1787, 1788) else (0, 0, 0, 0)))) else (bif Nat.ble 65 n then (bif Nat.ble 66 n then (bif Nat.ble 67 n then (bif Nat.beq n 67 then (1031, 120, 1029, 1030) else (0, 0, 0, 0)) else (bif Nat.beq n 66 then (1774, 135, 1772, 1773) else (0, 0, 0, 0))) else (bif Nat.beq n 65 then (1026, 120, 1024, 1025) else (0, 0, 0, 0))) else (bif Nat.ble 64 n then (bif Nat.beq n 64 then (1770, 135, 1768, 1769) else (0, 0, 0, 0)) else (bif Nat.beq n 63 then (1018, 120, 1016, 1017) else (0, 0, 0, 0)))))) else (bif Nat.ble 52 n then (bif Nat.ble 57 n then (bif Nat.ble 60 n then (bif Nat.ble 61 n then (bif Nat.ble 62 n then (bif Nat.beq n 62 then (1762, 135, 1760, 1761) else (0, 0, 0, 0)) else (bif Nat.beq n 61 then (1014, 120, 1012, 1013) else (0, 0, 0, 0))) else (bif Nat.beq n 60 then (1731, 135, 1730, 73) else (0, 0, 0, 0))) else (bif Nat.ble 58 n then (bif Nat.ble 59 n then (bif Nat.beq n 59 then (993, 120, 992, 27) else (0, 0, 0, 0)) else (bif Nat.beq n 58 then (1751, 135, 1749, 1750) else (0, 0, 0, 0))) else (bif Nat.beq n 57 then (1009, 120, 1007, 1008) else (0, 0, 0, 0)))) else (bif Nat.ble 54 n then (bif Nat.ble 55 n then (bif Nat.ble 56 n then (bif Nat.beq n 56 then (1747, 135, 1746, 76) else (0, 0, 0, 0)) else (bif Nat.beq n 55 then (1743, 135, 1742, 75) else (0, 0, 0, 0))) else (bif Nat.beq n 54 then (1739, 135, 1738, 74) else (0, 0, 0, 0))) else (bif Nat.ble 53 n then (bif Nat.beq n 53 then (1735, 135, 1733, 1734) else (0, 0, 0, 0)) else (bif Nat.beq n 52 then (1005, 120, 1004, 28) else (0, 0, 0, 0))))) else (bif Nat.ble 47 n then (bif Nat.ble 49 n then (bif Nat.ble 50 n then (bif Nat.ble 51 n then (bif Nat.beq n 51 then (1001, 120, 999, 1000) else (0, 0, 0, 0)) else (bif Nat.beq n 50 then (1673, 135, 1672, 0) else (0, 0, 0, 0))) else (bif Nat.beq n 49 then (1707, 135, 1706, 68) else (0, 0, 0, 0))) else (bif Nat.ble 48 n then (bif Nat.beq n 48 then (1727, 135, 1725, 1726) else (0, 0, 0, 0)) else (bif Nat.beq n 47 then (989, 120, 988, 26) else (0, 0, 0, 0)))) else (bif Nat.ble 44 n then (bif Nat.ble 45 n then (bif Nat.ble 46 n then (bif Nat.beq n 46 then (985, 120, 983, 984) else (0, 0, 0, 0)) else (bif Nat.beq n 45 then (1699, 135, 1697, 1698) else (0, 0, 0, 0))) else (bif Nat.beq n 44 then (787, 120, 785, 786) else (0, 0, 0, 0))) else (bif Nat.ble 43 n then (bif Nat.beq n 43 then (1616, 135, 1615, 51) else (0, 0, 0, 0)) else (bif Nat.beq n 42 then (1612, 135, 1611, 50) else (0, 0, 0, 0))))))) else (bif Nat.ble 21 n then (bif Nat.ble 31 n then (bif Nat.ble 36 n then (bif Nat.ble 39 n then (bif Nat.ble 40 n then (bif Nat.ble 41 n then (bif Nat.beq n 41 then (1608, 135, 1607, 49) else (0, 0, 0, 0)) else (bif Nat.beq n 40 then (1604, 135, 1602, 1603) else (0, 0, 0, 0))) else (bif Nat.beq n 39 then (783, 134, 781, 782) else (0, 0, 0, 0))) else (bif Nat.ble 37 n then (bif Nat.ble 38 n then (bif Nat.beq n 38 then (776, 133, 774, 775) else (0, 0, 0, 0)) else (bif Nat.beq n 37 then (682, 133, 681, 4) else (0, 0, 0, 0))) else (bif Nat.beq n 36 then (678, 132, 676, 677) else (0, 0, 0, 0)))) else (bif Nat.ble 33 n then (bif Nat.ble 34 n then (bif Nat.ble 35 n then (bif Nat.beq n 35 then (674, 133, 673, 3) else (0, 0, 0, 0)) else (bif Nat.beq n 34 then (667, 132, 665, 666) else (0, 0, 0, 0))) else (bif Nat.beq n 33 then (663, 133, 661, 662) else (0, 0, 0, 0))) else (bif Nat.ble 32 n then (bif Nat.beq n 32 then (659, 121, 657, 658) else (0, 0, 0, 0)) else (bif Nat.beq n 31 then (635, 121, 634, 0) else (0, 0, 0, 0))))) else (bif Nat.ble 26 n then (bif Nat.ble 28 n then (bif Nat.ble 29 n then (bif Nat.ble 30 n then (bif Nat.beq n 30 then (631, 121, 629, 630) else (0, 0, 0, 0)) else (bif Nat.beq n 29 then (627, 136, 626, 0) else (0, 0, 0, 0))) else (bif Nat.beq n 28 then (624, 133, 622, 623) else (0, 0, 0, 0))) else (bif Nat.ble 27 n then (bif Nat.beq n 27 then (618, 126, 616, 617) else (0, 0, 0, 0)) else (bif Nat.beq n 26 then (614, 120, 612, 613) else (0, 0, 0, 0)))) else (bif Nat.ble 23 n then (bif Nat.ble 24 n then (bif Nat.ble 25 n then (bif Nat.beq n 25 then (1406, 135, 1404, 1405) else (0, 0, 0, 0)) else (bif Nat.beq n 24 then (610, 120, 608, 609) else (0, 0, 0, 0))) else (bif Nat.beq n 23 then (1402, 135, 1400, 48) else (0, 0, 0, 0))) else (bif Nat.ble 22 n then (bif Nat.beq n 22 then (1397, 135, 1395, 1396) else (0, 0, 0, 0)) else (bif Nat.beq n 21 then (606, 121, 604, 605) else (0, 0, 0, 0)))))) else (bif Nat.ble 10 n then (bif Nat.ble 15 n then (bif Nat.ble 18 n then (bif Nat.ble 19 n then (bif Nat.ble 20 n then (bif Nat.beq n 20 then (602, 120, 600, 601) else (0, 0, 0, 0)) else (bif Nat.beq n 19 then (1410, 135, 1409, 0) else (0, 0, 0, 0))) else (bif Nat.beq n 18 then (542, 134, 541, 0) else (0, 0, 0, 0))) else (bif Nat.ble 16 n then (bif Nat.ble 17 n then (bif Nat.beq n 17 then (478, 133, 477, 0) else (0, 0, 0, 0)) else (bif Nat.beq n 16 then (430, 132, 429, 0) else (0, 0, 0, 0))) else (bif Nat.beq n 15 then (415, 131, 414, 0) else (0, 0, 0, 0)))) else (bif Nat.ble 12 n then (bif Nat.ble 13 n then (bif Nat.ble 14 n then (bif Nat.beq n 14 then (391, 130, 390, 0) else (0, 0, 0, 0)) else (bif Nat.beq n 13 then (350, 129, 349, 0) else (0, 0, 0, 0))) else (bif Nat.beq n 12 then (316, 128, 315, 0) else (0, 0, 0, 0))) else (bif Nat.ble 11 n then (bif Nat.beq n 11 then (297, 127, 296, 0) else (0, 0, 0, 0)) else (bif Nat.beq n 10 then (280, 126, 279, 0) else (0, 0, 0, 0))))) else (bif Nat.ble 5 n then (bif Nat.ble 7 n then (bif Nat.ble 8 n then (bif Nat.ble 9 n then (bif Nat.beq n 9 then (210, 121, 209, 0) else (0, 0, 0, 0)) else (bif Nat.beq n 8 then (188, 124, 187, 0) else (0, 0, 0, 0))) else (bif Nat.beq n 7 then (183, 122, 182, 0) else (0, 0, 0, 0))) else (bif Nat.ble 6 n then (bif Nat.beq n 6 then (180, 123, 179, 0) else (0, 0, 0, 0)) else (bif Nat.beq n 5 then (177, 122, 175, 176) else (0, 0, 0, 0)))) else (bif Nat.ble 2 n then (bif Nat.ble 3 n then (bif Nat.ble 4 n then (bif Nat.beq n 4 then (173, 122, 171, 172) else (0, 0, 0, 0)) else (bif Nat.beq n 3 then (167, 122, 165, 166) else (0, 0, 0, 0))) else (bif Nat.beq n 2 then (163, 122, 161, 162) else (0, 0, 0, 0))) else (bif Nat.ble 1 n then (bif Nat.beq n 1 then (157, 121, 156, 0) else (0, 0, 0, 0)) else (bif Nat.beq n 0 then (149, 120, 148, 0) else (0, 0, 0, 0)))))))))
def rvByt (i : Nat) : ByteArray := match lw_tbl[i]? with
  | some (.code _ b _ _) => b
  | _ => ⟨#[]⟩
def rvCw (i : Nat) (y : MethodName) (m : Nat) (r : Option FieldType) : Bool := match lw_tbl[i]? with
  | some (.code y' b m' r') => decide (y' = y) && (Nat.beq m' m && (decide (r' = r) && goodWord (.code y' b m' r')))
  | _ => false
theorem rvCw_ok {i m : Nat} {y : MethodName} {r : Option FieldType} (h : rvCw i y m r = true) : Cond.code y (rvByt i) m r ∈ rvWl := by
  unfold rvCw at h
  unfold rvByt
  split at h
  · rename_i y' b m' r' he
    obtain ⟨h1, h2⟩ := rv_and h
    obtain ⟨h2, h3⟩ := rv_and h2
    obtain ⟨h3, h4⟩ := rv_and h3
    have e1 := of_decide_eq_true h1
    have e2 := rv_beq h2
    have e3 := of_decide_eq_true h3
    subst e1; subst e2; subst e3
    exact List.mem_filter.mpr ⟨List.mem_of_getElem? he, h4⟩
  · cases h
def rvCd : Nat → ByteArray := fun j => rvByt (rvMi j).1
end
section
def rvEc (own : String) (cc : ByteArray) (ini : Bool) (q : Nat × rvE) : Bool := match q with
  | (pc, i, len, a1, a2, a3, wi) => decide (decode cc pc = .ok (i, rvSz i len)) && (rvAux own ini i a1 a2 wi && rvCk rvYn rvKd 168 own i a1 a2 a3 wi)
def rvTc (own : String) (cc : ByteArray) (ini : Bool) (l : List (Nat × List (Nat × rvE))) : Bool := l.all (fun ch => ch.2.all (rvEc own cc ini))
theorem rvTc_ok {own : String} {cc : ByteArray} {ini : Bool} {l : List (Nat × List (Nat × rvE))} (h : rvTc own cc ini l = true) : rvTk rvYn rvKd 168 own cc ini (rvFind2 l) := by
  intro pc i len a1 a2 a3 wi hf
  obtain ⟨ch, h1, h2⟩ := rvFind2_mem hf
  have h3 := List.all_eq_true.mp (List.all_eq_true.mp h ch h1) _ h2
  obtain ⟨g1, g2⟩ := rv_and (show (decide (decode cc pc = .ok (i, rvSz i len)) && (rvAux own ini i a1 a2 wi && rvCk rvYn rvKd 168 own i a1 a2 a3 wi)) = true from h3)
  obtain ⟨g2, g3⟩ := rv_and g2
  exact ⟨of_decide_eq_true g1, g2, g3⟩
def rvMb (j : Nat) : Bool := plainName (rvYn j).cls && (decide ((rvYn j).cls ≠ "java/lang/invoke/MethodHandle") && (decide ((rvYn j).cls ≠ "java/lang/invoke/VarHandle") && (decide ((parseMethodDescriptor (rvYn j).desc).map (fun d => d.parameters.length) = some (rvKd j).2) && (rvCw (rvMi j).1 (rvYn j) (rvInf j).1 (rvRet j) && (rvW (rvMi j).2.1 (.initialized (rvYn j).cls) &&
  (bif Nat.beq (rvKd j).1 0 then rvW (rvMi j).2.2.1 (.instanceMethod (rvYn j)) && (rvW (rvMi j).2.2.2 (.selects (rvYn j).cls (rvYn j) (rvYn j)) && ((Nat.blt (rvInf j).2.2.2.2.2 13 && decide (rvCn (rvInf j).2.2.2.2.2 = (rvYn j).cls)) || (Nat.beq (rvInf j).2.2.2.2.2 100 && decide ((rvYn j).cls = "java/lang/String"))))
   else bif Nat.beq (rvKd j).1 1 then rvW (rvMi j).2.2.1 (.static (rvYn j))
   else Nat.beq (rvKd j).1 2 && (rvW (rvMi j).2.2.1 (.instanceMethod (rvYn j)) && (decide ((rvYn j).name = "<init>") && decide (rvRet j = none)))))))))
theorem rvMb_ok {j : Nat} (h : rvMb j = true) : rvMp rvYn rvCd rvInf rvRet rvKd j := by
  obtain ⟨h1, h⟩ := rv_and h
  obtain ⟨h2, h⟩ := rv_and h
  obtain ⟨h3, h⟩ := rv_and h
  obtain ⟨h4, h⟩ := rv_and h
  obtain ⟨h5, h⟩ := rv_and h
  obtain ⟨h6, h⟩ := rv_and h
  refine ⟨h1, ⟨of_decide_eq_true h2, of_decide_eq_true h3, of_decide_eq_true h4⟩, rvCw_ok h5, rvW_ok h6, fun e => ?_, fun e => ?_, fun e => ?_⟩
  · rw [e] at h
    obtain ⟨g1, g2⟩ := rv_and (show (rvW (rvMi j).2.2.1 (.instanceMethod (rvYn j)) && (rvW (rvMi j).2.2.2 (.selects (rvYn j).cls (rvYn j) (rvYn j)) && ((Nat.blt (rvInf j).2.2.2.2.2 13 && decide (rvCn (rvInf j).2.2.2.2.2 = (rvYn j).cls)) || (Nat.beq (rvInf j).2.2.2.2.2 100 && decide ((rvYn j).cls = "java/lang/String"))))) = true from h)
    obtain ⟨g2, g3⟩ := rv_and g2
    refine ⟨rvW_ok g1, rvW_ok g2, ?_⟩
    rcases rv_or' g3 with q | q
    · exact Or.inl ⟨rv_blt (rv_and q).1, of_decide_eq_true (rv_and q).2⟩
    · exact Or.inr ⟨rv_beq (rv_and q).1, of_decide_eq_true (rv_and q).2⟩
  · rw [e] at h
    exact rvW_ok (show rvW (rvMi j).2.2.1 (.static (rvYn j)) = true from h)
  · rw [e] at h
    obtain ⟨g1, g2⟩ := rv_and (show (rvW (rvMi j).2.2.1 (.instanceMethod (rvYn j)) && (decide ((rvYn j).name = "<init>") && decide (rvRet j = none))) = true from h)
    obtain ⟨g2, g3⟩ := rv_and g2
    exact ⟨rvW_ok g1, of_decide_eq_true g2, of_decide_eq_true g3⟩
def rvJc (j : Nat) : Bool := rvMb j && rvTc (rvYn j).cls (rvCd j) (decide ((rvYn j).name = "<init>")) (rvEn j)
end
section
theorem rvJ_0 : rvJc 0 = true := by decide +kernel
theorem rvJ_4 : rvJc 4 = true := by decide +kernel
theorem rvJ_8 : rvJc 8 = true := by decide +kernel
theorem rvJ_12 : rvJc 12 = true := by decide +kernel
theorem rvJ_16 : rvJc 16 = true := by decide +kernel
theorem rvJ_20 : rvJc 20 = true := by decide +kernel
theorem rvJ_24 : rvJc 24 = true := by decide +kernel
theorem rvJ_28 : rvJc 28 = true := by decide +kernel
theorem rvJ_32 : rvJc 32 = true := by decide +kernel
theorem rvJ_36 : rvJc 36 = true := by decide +kernel
theorem rvJ_40 : rvJc 40 = true := by decide +kernel
theorem rvJ_44 : rvJc 44 = true := by decide +kernel
theorem rvJ_48 : rvJc 48 = true := by decide +kernel
theorem rvJ_52 : rvJc 52 = true := by decide +kernel
theorem rvJ_56 : rvJc 56 = true := by decide +kernel
theorem rvJ_60 : rvJc 60 = true := by decide +kernel
theorem rvJ_64 : rvJc 64 = true := by decide +kernel
theorem rvJ_68 : rvJc 68 = true := by decide +kernel
theorem rvJ_72 : rvJc 72 = true := by decide +kernel
theorem rvJ_76 : rvJc 76 = true := by decide +kernel
theorem rvJ_80 : rvJc 80 = true := by decide +kernel
theorem rvJ_84 : rvJc 84 = true := by decide +kernel
theorem rvJ_88 : rvJc 88 = true := by decide +kernel
theorem rvJ_92 : rvJc 92 = true := by decide +kernel
theorem rvJ_96 : rvJc 96 = true := by decide +kernel
theorem rvJ_100 : rvJc 100 = true := by decide +kernel
theorem rvJ_104 : rvJc 104 = true := by decide +kernel
theorem rvJ_108 : rvJc 108 = true := by decide +kernel
theorem rvJ_112 : rvJc 112 = true := by decide +kernel
theorem rvJ_116 : rvJc 116 = true := by decide +kernel
theorem rvJ_120 : rvJc 120 = true := by decide +kernel
theorem rvJ_124 : rvJc 124 = true := by decide +kernel
theorem rvJ_128 : rvJc 128 = true := by decide +kernel
theorem rvJ_132 : rvJc 132 = true := by decide +kernel
theorem rvJ_136 : rvJc 136 = true := by decide +kernel
theorem rvJ_140 : rvJc 140 = true := by decide +kernel
theorem rvJ_144 : rvJc 144 = true := by decide +kernel
theorem rvJ_148 : rvJc 148 = true := by decide +kernel
theorem rvJ_152 : rvJc 152 = true := by decide +kernel
theorem rvJ_156 : rvJc 156 = true := by decide +kernel
theorem rvJ_160 : rvJc 160 = true := by decide +kernel
theorem rvJ_164 : rvJc 164 = true := by decide +kernel
end
section
theorem rvJ_1 : rvJc 1 = true := by decide +kernel
theorem rvJ_5 : rvJc 5 = true := by decide +kernel
theorem rvJ_9 : rvJc 9 = true := by decide +kernel
theorem rvJ_13 : rvJc 13 = true := by decide +kernel
theorem rvJ_17 : rvJc 17 = true := by decide +kernel
theorem rvJ_21 : rvJc 21 = true := by decide +kernel
theorem rvJ_25 : rvJc 25 = true := by decide +kernel
theorem rvJ_29 : rvJc 29 = true := by decide +kernel
theorem rvJ_33 : rvJc 33 = true := by decide +kernel
theorem rvJ_37 : rvJc 37 = true := by decide +kernel
theorem rvJ_41 : rvJc 41 = true := by decide +kernel
theorem rvJ_45 : rvJc 45 = true := by decide +kernel
theorem rvJ_49 : rvJc 49 = true := by decide +kernel
theorem rvJ_53 : rvJc 53 = true := by decide +kernel
theorem rvJ_57 : rvJc 57 = true := by decide +kernel
theorem rvJ_61 : rvJc 61 = true := by decide +kernel
theorem rvJ_65 : rvJc 65 = true := by decide +kernel
theorem rvJ_69 : rvJc 69 = true := by decide +kernel
theorem rvJ_73 : rvJc 73 = true := by decide +kernel
theorem rvJ_77 : rvJc 77 = true := by decide +kernel
theorem rvJ_81 : rvJc 81 = true := by decide +kernel
theorem rvJ_85 : rvJc 85 = true := by decide +kernel
theorem rvJ_89 : rvJc 89 = true := by decide +kernel
theorem rvJ_93 : rvJc 93 = true := by decide +kernel
theorem rvJ_97 : rvJc 97 = true := by decide +kernel
theorem rvJ_101 : rvJc 101 = true := by decide +kernel
theorem rvJ_105 : rvJc 105 = true := by decide +kernel
theorem rvJ_109 : rvJc 109 = true := by decide +kernel
theorem rvJ_113 : rvJc 113 = true := by decide +kernel
theorem rvJ_117 : rvJc 117 = true := by decide +kernel
theorem rvJ_121 : rvJc 121 = true := by decide +kernel
theorem rvJ_125 : rvJc 125 = true := by decide +kernel
theorem rvJ_129 : rvJc 129 = true := by decide +kernel
theorem rvJ_133 : rvJc 133 = true := by decide +kernel
theorem rvJ_137 : rvJc 137 = true := by decide +kernel
theorem rvJ_141 : rvJc 141 = true := by decide +kernel
theorem rvJ_145 : rvJc 145 = true := by decide +kernel
theorem rvJ_149 : rvJc 149 = true := by decide +kernel
theorem rvJ_153 : rvJc 153 = true := by decide +kernel
theorem rvJ_157 : rvJc 157 = true := by decide +kernel
theorem rvJ_161 : rvJc 161 = true := by decide +kernel
theorem rvJ_165 : rvJc 165 = true := by decide +kernel
end
section
theorem rvJ_2 : rvJc 2 = true := by decide +kernel
theorem rvJ_6 : rvJc 6 = true := by decide +kernel
theorem rvJ_10 : rvJc 10 = true := by decide +kernel
theorem rvJ_14 : rvJc 14 = true := by decide +kernel
theorem rvJ_18 : rvJc 18 = true := by decide +kernel
theorem rvJ_22 : rvJc 22 = true := by decide +kernel
theorem rvJ_26 : rvJc 26 = true := by decide +kernel
theorem rvJ_30 : rvJc 30 = true := by decide +kernel
theorem rvJ_34 : rvJc 34 = true := by decide +kernel
theorem rvJ_38 : rvJc 38 = true := by decide +kernel
theorem rvJ_42 : rvJc 42 = true := by decide +kernel
theorem rvJ_46 : rvJc 46 = true := by decide +kernel
theorem rvJ_50 : rvJc 50 = true := by decide +kernel
theorem rvJ_54 : rvJc 54 = true := by decide +kernel
theorem rvJ_58 : rvJc 58 = true := by decide +kernel
theorem rvJ_62 : rvJc 62 = true := by decide +kernel
theorem rvJ_66 : rvJc 66 = true := by decide +kernel
theorem rvJ_70 : rvJc 70 = true := by decide +kernel
theorem rvJ_74 : rvJc 74 = true := by decide +kernel
theorem rvJ_78 : rvJc 78 = true := by decide +kernel
theorem rvJ_82 : rvJc 82 = true := by decide +kernel
theorem rvJ_86 : rvJc 86 = true := by decide +kernel
theorem rvJ_90 : rvJc 90 = true := by decide +kernel
theorem rvJ_94 : rvJc 94 = true := by decide +kernel
theorem rvJ_98 : rvJc 98 = true := by decide +kernel
theorem rvJ_102 : rvJc 102 = true := by decide +kernel
theorem rvJ_106 : rvJc 106 = true := by decide +kernel
theorem rvJ_110 : rvJc 110 = true := by decide +kernel
theorem rvJ_114 : rvJc 114 = true := by decide +kernel
theorem rvJ_118 : rvJc 118 = true := by decide +kernel
theorem rvJ_122 : rvJc 122 = true := by decide +kernel
theorem rvJ_126 : rvJc 126 = true := by decide +kernel
theorem rvJ_130 : rvJc 130 = true := by decide +kernel
theorem rvJ_134 : rvJc 134 = true := by decide +kernel
theorem rvJ_138 : rvJc 138 = true := by decide +kernel
theorem rvJ_142 : rvJc 142 = true := by decide +kernel
theorem rvJ_146 : rvJc 146 = true := by decide +kernel
theorem rvJ_150 : rvJc 150 = true := by decide +kernel
theorem rvJ_154 : rvJc 154 = true := by decide +kernel
theorem rvJ_158 : rvJc 158 = true := by decide +kernel
theorem rvJ_162 : rvJc 162 = true := by decide +kernel
theorem rvJ_166 : rvJc 166 = true := by decide +kernel
end
section
theorem rvJ_3 : rvJc 3 = true := by decide +kernel
theorem rvJ_7 : rvJc 7 = true := by decide +kernel
theorem rvJ_11 : rvJc 11 = true := by decide +kernel
theorem rvJ_15 : rvJc 15 = true := by decide +kernel
theorem rvJ_19 : rvJc 19 = true := by decide +kernel
theorem rvJ_23 : rvJc 23 = true := by decide +kernel
theorem rvJ_27 : rvJc 27 = true := by decide +kernel
theorem rvJ_31 : rvJc 31 = true := by decide +kernel
theorem rvJ_35 : rvJc 35 = true := by decide +kernel
theorem rvJ_39 : rvJc 39 = true := by decide +kernel
theorem rvJ_43 : rvJc 43 = true := by decide +kernel
theorem rvJ_47 : rvJc 47 = true := by decide +kernel
theorem rvJ_51 : rvJc 51 = true := by decide +kernel
theorem rvJ_55 : rvJc 55 = true := by decide +kernel
theorem rvJ_59 : rvJc 59 = true := by decide +kernel
theorem rvJ_63 : rvJc 63 = true := by decide +kernel
theorem rvJ_67 : rvJc 67 = true := by decide +kernel
theorem rvJ_71 : rvJc 71 = true := by decide +kernel
theorem rvJ_75 : rvJc 75 = true := by decide +kernel
theorem rvJ_79 : rvJc 79 = true := by decide +kernel
theorem rvJ_83 : rvJc 83 = true := by decide +kernel
theorem rvJ_87 : rvJc 87 = true := by decide +kernel
theorem rvJ_91 : rvJc 91 = true := by decide +kernel
theorem rvJ_95 : rvJc 95 = true := by decide +kernel
theorem rvJ_99 : rvJc 99 = true := by decide +kernel
theorem rvJ_103 : rvJc 103 = true := by decide +kernel
theorem rvJ_107 : rvJc 107 = true := by decide +kernel
theorem rvJ_111 : rvJc 111 = true := by decide +kernel
theorem rvJ_115 : rvJc 115 = true := by decide +kernel
theorem rvJ_119 : rvJc 119 = true := by decide +kernel
theorem rvJ_123 : rvJc 123 = true := by decide +kernel
theorem rvJ_127 : rvJc 127 = true := by decide +kernel
theorem rvJ_131 : rvJc 131 = true := by decide +kernel
theorem rvJ_135 : rvJc 135 = true := by decide +kernel
theorem rvJ_139 : rvJc 139 = true := by decide +kernel
theorem rvJ_143 : rvJc 143 = true := by decide +kernel
theorem rvJ_147 : rvJc 147 = true := by decide +kernel
theorem rvJ_151 : rvJc 151 = true := by decide +kernel
theorem rvJ_155 : rvJc 155 = true := by decide +kernel
theorem rvJ_159 : rvJc 159 = true := by decide +kernel
theorem rvJ_163 : rvJc 163 = true := by decide +kernel
theorem rvJ_167 : rvJc 167 = true := by decide +kernel
end
section
theorem rvJ_all (j : Nat) (h : j < 168) : rvJc j = true := by
  match j, h with
  | 0, _ => exact rvJ_0
  | 1, _ => exact rvJ_1
  | 2, _ => exact rvJ_2
  | 3, _ => exact rvJ_3
  | 4, _ => exact rvJ_4
  | 5, _ => exact rvJ_5
  | 6, _ => exact rvJ_6
  | 7, _ => exact rvJ_7
  | 8, _ => exact rvJ_8
  | 9, _ => exact rvJ_9
  | 10, _ => exact rvJ_10
  | 11, _ => exact rvJ_11
  | 12, _ => exact rvJ_12
  | 13, _ => exact rvJ_13
  | 14, _ => exact rvJ_14
  | 15, _ => exact rvJ_15
  | 16, _ => exact rvJ_16
  | 17, _ => exact rvJ_17
  | 18, _ => exact rvJ_18
  | 19, _ => exact rvJ_19
  | 20, _ => exact rvJ_20
  | 21, _ => exact rvJ_21
  | 22, _ => exact rvJ_22
  | 23, _ => exact rvJ_23
  | 24, _ => exact rvJ_24
  | 25, _ => exact rvJ_25
  | 26, _ => exact rvJ_26
  | 27, _ => exact rvJ_27
  | 28, _ => exact rvJ_28
  | 29, _ => exact rvJ_29
  | 30, _ => exact rvJ_30
  | 31, _ => exact rvJ_31
  | 32, _ => exact rvJ_32
  | 33, _ => exact rvJ_33
  | 34, _ => exact rvJ_34
  | 35, _ => exact rvJ_35
  | 36, _ => exact rvJ_36
  | 37, _ => exact rvJ_37
  | 38, _ => exact rvJ_38
  | 39, _ => exact rvJ_39
  | 40, _ => exact rvJ_40
  | 41, _ => exact rvJ_41
  | 42, _ => exact rvJ_42
  | 43, _ => exact rvJ_43
  | 44, _ => exact rvJ_44
  | 45, _ => exact rvJ_45
  | 46, _ => exact rvJ_46
  | 47, _ => exact rvJ_47
  | 48, _ => exact rvJ_48
  | 49, _ => exact rvJ_49
  | 50, _ => exact rvJ_50
  | 51, _ => exact rvJ_51
  | 52, _ => exact rvJ_52
  | 53, _ => exact rvJ_53
  | 54, _ => exact rvJ_54
  | 55, _ => exact rvJ_55
  | 56, _ => exact rvJ_56
  | 57, _ => exact rvJ_57
  | 58, _ => exact rvJ_58
  | 59, _ => exact rvJ_59
  | 60, _ => exact rvJ_60
  | 61, _ => exact rvJ_61
  | 62, _ => exact rvJ_62
  | 63, _ => exact rvJ_63
  | 64, _ => exact rvJ_64
  | 65, _ => exact rvJ_65
  | 66, _ => exact rvJ_66
  | 67, _ => exact rvJ_67
  | 68, _ => exact rvJ_68
  | 69, _ => exact rvJ_69
  | 70, _ => exact rvJ_70
  | 71, _ => exact rvJ_71
  | 72, _ => exact rvJ_72
  | 73, _ => exact rvJ_73
  | 74, _ => exact rvJ_74
  | 75, _ => exact rvJ_75
  | 76, _ => exact rvJ_76
  | 77, _ => exact rvJ_77
  | 78, _ => exact rvJ_78
  | 79, _ => exact rvJ_79
  | 80, _ => exact rvJ_80
  | 81, _ => exact rvJ_81
  | 82, _ => exact rvJ_82
  | 83, _ => exact rvJ_83
  | 84, _ => exact rvJ_84
  | 85, _ => exact rvJ_85
  | 86, _ => exact rvJ_86
  | 87, _ => exact rvJ_87
  | 88, _ => exact rvJ_88
  | 89, _ => exact rvJ_89
  | 90, _ => exact rvJ_90
  | 91, _ => exact rvJ_91
  | 92, _ => exact rvJ_92
  | 93, _ => exact rvJ_93
  | 94, _ => exact rvJ_94
  | 95, _ => exact rvJ_95
  | 96, _ => exact rvJ_96
  | 97, _ => exact rvJ_97
  | 98, _ => exact rvJ_98
  | 99, _ => exact rvJ_99
  | 100, _ => exact rvJ_100
  | 101, _ => exact rvJ_101
  | 102, _ => exact rvJ_102
  | 103, _ => exact rvJ_103
  | 104, _ => exact rvJ_104
  | 105, _ => exact rvJ_105
  | 106, _ => exact rvJ_106
  | 107, _ => exact rvJ_107
  | 108, _ => exact rvJ_108
  | 109, _ => exact rvJ_109
  | 110, _ => exact rvJ_110
  | 111, _ => exact rvJ_111
  | 112, _ => exact rvJ_112
  | 113, _ => exact rvJ_113
  | 114, _ => exact rvJ_114
  | 115, _ => exact rvJ_115
  | 116, _ => exact rvJ_116
  | 117, _ => exact rvJ_117
  | 118, _ => exact rvJ_118
  | 119, _ => exact rvJ_119
  | 120, _ => exact rvJ_120
  | 121, _ => exact rvJ_121
  | 122, _ => exact rvJ_122
  | 123, _ => exact rvJ_123
  | 124, _ => exact rvJ_124
  | 125, _ => exact rvJ_125
  | 126, _ => exact rvJ_126
  | 127, _ => exact rvJ_127
  | 128, _ => exact rvJ_128
  | 129, _ => exact rvJ_129
  | 130, _ => exact rvJ_130
  | 131, _ => exact rvJ_131
  | 132, _ => exact rvJ_132
  | 133, _ => exact rvJ_133
  | 134, _ => exact rvJ_134
  | 135, _ => exact rvJ_135
  | 136, _ => exact rvJ_136
  | 137, _ => exact rvJ_137
  | 138, _ => exact rvJ_138
  | 139, _ => exact rvJ_139
  | 140, _ => exact rvJ_140
  | 141, _ => exact rvJ_141
  | 142, _ => exact rvJ_142
  | 143, _ => exact rvJ_143
  | 144, _ => exact rvJ_144
  | 145, _ => exact rvJ_145
  | 146, _ => exact rvJ_146
  | 147, _ => exact rvJ_147
  | 148, _ => exact rvJ_148
  | 149, _ => exact rvJ_149
  | 150, _ => exact rvJ_150
  | 151, _ => exact rvJ_151
  | 152, _ => exact rvJ_152
  | 153, _ => exact rvJ_153
  | 154, _ => exact rvJ_154
  | 155, _ => exact rvJ_155
  | 156, _ => exact rvJ_156
  | 157, _ => exact rvJ_157
  | 158, _ => exact rvJ_158
  | 159, _ => exact rvJ_159
  | 160, _ => exact rvJ_160
  | 161, _ => exact rvJ_161
  | 162, _ => exact rvJ_162
  | 163, _ => exact rvJ_163
  | 164, _ => exact rvJ_164
  | 165, _ => exact rvJ_165
  | 166, _ => exact rvJ_166
  | 167, _ => exact rvJ_167
  | n + 168, h => exact absurd h (by omega)
theorem rvM_all : ∀ j, j < 168 → rvMp rvYn rvCd rvInf rvRet rvKd j := fun j h => rvMb_ok (rv_and (rvJ_all j h)).1
theorem rvT_all : ∀ j, j < 168 → rvTk rvYn rvKd 168 (rvYn j).cls (rvCd j) (decide ((rvYn j).name = "<init>")) (rvTab j) := fun j h => rvTc_ok (rv_and (rvJ_all j h)).2
theorem rvBase_ok : rvBase := ⟨rvW_ok (i := 151) (by decide +kernel), rvW_ok (i := 152) (by decide +kernel), rvW_ok (i := 779) (by decide +kernel), rvW_ok (i := 778) (by decide +kernel), rvW_ok (i := 139) (by decide +kernel)⟩
theorem rvL_0 : tbL_0.2.all (rvEc RL cL_law false) = true := by decide +kernel
theorem rvL_1 : tbL_1.2.all (rvEc RL cL_law false) = true := by decide +kernel
theorem rvL_2 : tbL_2.2.all (rvEc RL cL_law false) = true := by decide +kernel
theorem rvL_3 : tbL_3.2.all (rvEc RL cL_law false) = true := by decide +kernel
theorem rvL_4 : tbL_4.2.all (rvEc RL cL_law false) = true := by decide +kernel
theorem rvL_5 : tbL_5.2.all (rvEc RL cL_law false) = true := by decide +kernel
theorem rvL_6 : tbL_6.2.all (rvEc RL cL_law false) = true := by decide +kernel
theorem rvL_7 : tbL_7.2.all (rvEc RL cL_law false) = true := by decide +kernel
theorem rvL_8 : tbL_8.2.all (rvEc RL cL_law false) = true := by decide +kernel
theorem rvL_9 : tbL_9.2.all (rvEc RL cL_law false) = true := by decide +kernel
theorem rvL_10 : tbL_10.2.all (rvEc RL cL_law false) = true := by decide +kernel
theorem rvL_11 : tbL_11.2.all (rvEc RL cL_law false) = true := by decide +kernel
theorem rvL_12 : tbL_12.2.all (rvEc RL cL_law false) = true := by decide +kernel
theorem rvL_13 : tbL_13.2.all (rvEc RL cL_law false) = true := by decide +kernel
theorem rvL_14 : tbL_14.2.all (rvEc RL cL_law false) = true := by decide +kernel
theorem rvL_15 : tbL_15.2.all (rvEc RL cL_law false) = true := by decide +kernel
theorem rvL_16 : tbL_16.2.all (rvEc RL cL_law false) = true := by decide +kernel
theorem rvL_17 : tbL_17.2.all (rvEc RL cL_law false) = true := by decide +kernel
theorem rvL_18 : tbL_18.2.all (rvEc RL cL_law false) = true := by decide +kernel
theorem rvL_19 : tbL_19.2.all (rvEc RL cL_law false) = true := by decide +kernel
theorem rvL_20 : tbL_20.2.all (rvEc RL cL_law false) = true := by decide +kernel
theorem rvL_21 : tbL_21.2.all (rvEc RL cL_law false) = true := by decide +kernel
theorem rvL_22 : tbL_22.2.all (rvEc RL cL_law false) = true := by decide +kernel
theorem rvL_23 : tbL_23.2.all (rvEc RL cL_law false) = true := by decide +kernel
theorem rvL_24 : tbL_24.2.all (rvEc RL cL_law false) = true := by decide +kernel
theorem rvL_25 : tbL_25.2.all (rvEc RL cL_law false) = true := by decide +kernel
theorem rvL_26 : tbL_26.2.all (rvEc RL cL_law false) = true := by decide +kernel
theorem rvL_27 : tbL_27.2.all (rvEc RL cL_law false) = true := by decide +kernel
theorem rvL_28 : tbL_28.2.all (rvEc RL cL_law false) = true := by decide +kernel
theorem rvL_29 : tbL_29.2.all (rvEc RL cL_law false) = true := by decide +kernel
theorem rvL_30 : tbL_30.2.all (rvEc RL cL_law false) = true := by decide +kernel
theorem rvT_L : rvTk rvYn rvKd 168 RL cL_law false (rvFind2 tb_L) := rvTc_ok (List.all_eq_true.mpr (List.forall_mem_cons.mpr ⟨rvL_0, List.forall_mem_cons.mpr ⟨rvL_1, List.forall_mem_cons.mpr ⟨rvL_2, List.forall_mem_cons.mpr ⟨rvL_3, List.forall_mem_cons.mpr ⟨rvL_4, List.forall_mem_cons.mpr ⟨rvL_5, List.forall_mem_cons.mpr ⟨rvL_6, List.forall_mem_cons.mpr ⟨rvL_7, List.forall_mem_cons.mpr ⟨rvL_8, List.forall_mem_cons.mpr ⟨rvL_9, List.forall_mem_cons.mpr ⟨rvL_10, List.forall_mem_cons.mpr ⟨rvL_11, List.forall_mem_cons.mpr ⟨rvL_12, List.forall_mem_cons.mpr ⟨rvL_13, List.forall_mem_cons.mpr ⟨rvL_14, List.forall_mem_cons.mpr ⟨rvL_15, List.forall_mem_cons.mpr ⟨rvL_16, List.forall_mem_cons.mpr ⟨rvL_17, List.forall_mem_cons.mpr ⟨rvL_18, List.forall_mem_cons.mpr ⟨rvL_19, List.forall_mem_cons.mpr ⟨rvL_20, List.forall_mem_cons.mpr ⟨rvL_21, List.forall_mem_cons.mpr ⟨rvL_22, List.forall_mem_cons.mpr ⟨rvL_23, List.forall_mem_cons.mpr ⟨rvL_24, List.forall_mem_cons.mpr ⟨rvL_25, List.forall_mem_cons.mpr ⟨rvL_26, List.forall_mem_cons.mpr ⟨rvL_27, List.forall_mem_cons.mpr ⟨rvL_28, List.forall_mem_cons.mpr ⟨rvL_29, List.forall_mem_cons.mpr ⟨rvL_30, fun _ h => absurd h List.not_mem_nil⟩⟩⟩⟩⟩⟩⟩⟩⟩⟩⟩⟩⟩⟩⟩⟩⟩⟩⟩⟩⟩⟩⟩⟩⟩⟩⟩⟩⟩⟩⟩))
end
section
/-! THE CLAIM OUT OF ONE WALK OF THE LAW'S BODY. Your part is whole_start (and what it stands on); all else here is the same for every law, but numbers. -/
def R_law : String := "OboeDistrictLaw"
def lw_P (b : Addr) (xs : List Int32) (args : Array Value) (s : State) : Prop := args = #[.ref b] ∧ s.IntsAt b xs ∧ xs.length ≤ 6 ∧ (Jvm.Cond.and given_1 narrow_1).before args s = true
def lw_Q (_ : Array Value) (s : State) (o : Outcome) (t : State) : Prop := o = .returned (some (.int 1)) ∧ Framed s o t [] 600002 7302232
def lw_Z (below : List Frame) (a : Array Value) (s : State) : State → Prop := fun t => ∃ o, t.status = .running ∧ Ended t below o ∧ lw_Q a s o t
/-- the law's own end, with 1 on the stack, nothing written that was there before, its room as the claim has it -/
theorem lw_ret {p : Program} {l : Launch} {e : Env} {s : State} {m : MethodId} {below : List Frame} {meth : Method} {c : Code} {b : Nat} (hx : p.tables.exec = Jvm.exec) (hb : c.code = code) (hr : meth.sig.returnType = ret) (hlocks : meth.locks = false) {pc : Nat} {H : Heap} {ls : Array Slot} (hdg : decode code pc = .ok (.ireturn, 1)) : W p l e room_1 s m #[Value.ref b] below meth c H [] 600002 7302232 (lw_Z below #[Value.ref b] s) (F0 m pc ls [.int 1]) := by
  intro T hT X
  obtain ⟨fs, hret, hrun, hended, hW, hframe⟩ := X.leave (v := some (.int 1)) (hlocks := hlocks) (fun h => by rw [hr] at h; cases h)
  have hmeth' : T.vm.method? m = some meth := X.method'
  refine ⟨T.setFrames fs, ?_, .returned (some (.int 1)), hrun, hended, rfl, ⟨_, rfl⟩, hW, hframe⟩
  jvm_step X.here [X.here.top, hx, hb, hdg, hmeth', hr, ret, narrow_b1]
  (try refine ⟨rfl, ?_⟩); (try refine ⟨rfl, ?_⟩)
  first | (intro acts; rw [hret _ acts rfl rfl rfl]) | rw [hret _ _ rfl rfl rfl]
  exact Steps.refl _
/-- what holds at the law's entry: the machine, the code, the tables' words (any of lw_tbl by 'hts w (by decide +kernel)'), the script of L ints xs at the cell b, what the Statement gives of the start (any of its parts by flat_of_before) -/
def lw_At (p : Program) (s : State) (m : MethodId) (meth : Method) (c : Code) (b L : Nat) (xs : Nat → Int32) : Prop :=
  p.tables.exec = Jvm.exec ∧ c.code = code ∧ meth.sig.returnType = ret ∧ c.maxLocals = 7 ∧ s.vm.findClass R_law = some m.cls ∧ (∀ w ∈ lw_tbl, w.before #[Value.ref b] s = true) ∧ va_X b L xs s s.heap ∧ b < s.heap.size ∧ meth.locks = false ∧ (Jvm.Cond.and given_1 narrow_1).before #[Value.ref b] s = true
def rvFl (i : Nat) (w : Cond) : Bool := decide ((flatC (Jvm.Cond.and given_1 narrow_1))[i]? = some w)
theorem rvFl_ok {i : Nat} {w : Cond} {args : Array Value} {s : State} (h : rvFl i w = true) (hg : (Jvm.Cond.and given_1 narrow_1).before args s = true) : w.before args s = true := flat_of_before _ hg w (List.mem_of_getElem? (of_decide_eq_true h))
abbrev rvTm : Term := .string RX9 32
theorem rv_iex : rvFl 69 (.exactly rvTm "java/lang/String") = true := by decide +kernel
theorem rv_ico : rvFl 70 (.eq (.field rvTm "java/lang/String" "coder" "B") (.int 0)) = true := by decide +kernel
theorem rv_iar : rvFl 71 (.arrayOf (.field rvTm "java/lang/String" "value" "[B") .byte) = true := by decide +kernel
theorem rv_ile : rvFl 72 (.eq (.length (.field rvTm "java/lang/String" "value" "[B")) (.int (Int32.ofNat rvTxt.length))) = true := by decide +kernel
theorem rv_iel_0 : (List.range' 0 32).all (fun j => rvFl (73 + j) (.eq (.elem (.field rvTm "java/lang/String" "value" "[B") (.int (Int32.ofNat j))) (.int ((rvTxt.map Int32.ofInt).getD j 0)))) = true := by decide +kernel
theorem rv_iel_32 : (List.range' 32 32).all (fun j => rvFl (73 + j) (.eq (.elem (.field rvTm "java/lang/String" "value" "[B") (.int (Int32.ofNat j))) (.int ((rvTxt.map Int32.ofInt).getD j 0)))) = true := by decide +kernel
theorem rv_iel_64 : (List.range' 64 32).all (fun j => rvFl (73 + j) (.eq (.elem (.field rvTm "java/lang/String" "value" "[B") (.int (Int32.ofNat j))) (.int ((rvTxt.map Int32.ofInt).getD j 0)))) = true := by decide +kernel
theorem rv_iel_96 : (List.range' 96 27).all (fun j => rvFl (73 + j) (.eq (.elem (.field rvTm "java/lang/String" "value" "[B") (.int (Int32.ofNat j))) (.int ((rvTxt.map Int32.ofInt).getD j 0)))) = true := by decide +kernel
theorem rv_iel (j : Nat) (h : j < 123) : rvFl (73 + j) (.eq (.elem (.field rvTm "java/lang/String" "value" "[B") (.int (Int32.ofNat j))) (.int ((rvTxt.map Int32.ofInt).getD j 0))) = true := by
  by_cases h0 : j < 32
  · exact List.all_eq_true.mp rv_iel_0 j (List.mem_range'_1.mpr ⟨by omega, by omega⟩)
  by_cases h32 : j < 64
  · exact List.all_eq_true.mp rv_iel_32 j (List.mem_range'_1.mpr ⟨by omega, by omega⟩)
  by_cases h64 : j < 96
  · exact List.all_eq_true.mp rv_iel_64 j (List.mem_range'_1.mpr ⟨by omega, by omega⟩)
  by_cases h96 : j < 123
  · exact List.all_eq_true.mp rv_iel_96 j (List.mem_range'_1.mpr ⟨by omega, by omega⟩)
  omega
theorem rv_icp : rvFl 4 (.eq (.static "java/lang/String" "COMPACT_STRINGS" "Z") (.int 1)) = true := by decide +kernel
theorem rv_isi : rvFl 5 (.isRef (.static "jdk/internal/util/Preconditions" "SIOOBE_FORMATTER" "Ljava/util/function/BiFunction;")) = true := by decide +kernel
theorem rv_w1 : Cond.stringRef RX9 32 rvText ∈ lw_tbl := List.mem_of_getElem? (i := 159) (by decide +kernel)
theorem rv_w2 : Cond.laysStatic "java/lang/String" "COMPACT_STRINGS" "Z" ∈ lw_tbl := List.mem_of_getElem? (i := 169) (by decide +kernel)
theorem rv_w3 : Cond.laysStatic "jdk/internal/util/Preconditions" "SIOOBE_FORMATTER" "Ljava/util/function/BiFunction;" ∈ lw_tbl := List.mem_of_getElem? (i := 185) (by decide +kernel)
theorem rv_w4 : Cond.initialized "java/lang/String" ∈ lw_tbl := List.mem_of_getElem? (i := 122) (by decide +kernel)
theorem rv_w5 : Cond.initialized "jdk/internal/util/Preconditions" ∈ lw_tbl := List.mem_of_getElem? (i := 124) (by decide +kernel)
theorem rv_w6 : Cond.arrayOver (.object RX2) ∈ lw_tbl := List.mem_of_getElem? (i := 273) (by decide +kernel)
theorem rv_w7 : Cond.arrayOver (.object RX6) ∈ lw_tbl := List.mem_of_getElem? (i := 275) (by decide +kernel)
theorem rv_a0 : Cond.arrayClass .int ∈ lw_tbl := List.mem_of_getElem? (i := 271) (by decide +kernel)
theorem rv_a1 : Cond.arrayClass .byte ∈ lw_tbl := List.mem_of_getElem? (i := 269) (by decide +kernel)
theorem rv_a2 : Cond.arrayClass .boolean ∈ lw_tbl := List.mem_of_getElem? (i := 292) (by decide +kernel)
theorem rv_a3 : Cond.arrayClass .long ∈ lw_tbl := List.mem_of_getElem? (i := 270) (by decide +kernel)
theorem rv_arr {args : Array Value} {s : State} {ty : FieldType} (h : (Cond.arrayClass ty).before args s = true) (hp : ∀ C, ty ≠ .object C) : ∃ cA, ArrOfT s cA ty ∧ va_RA s cA ty := by
  obtain ⟨cA, kA, comp, h1, h2, h3⟩ := Cond.arrayClass_spec h
  refine ⟨cA, fun n z => ⟨fun k h => (by cases h), kA, h2, comp, h3⟩, ?_⟩
  cases ty <;> first | exact h1 | exact absurd rfl (hp _)
theorem rv_arq {args : Array Value} {s : State} {C : String} (h : (Cond.arrayOver (.object C)).before args s = true) : ∃ cA, ArrOfT s cA (.object C) ∧ va_RA s cA (.object C) := by
  obtain ⟨comp, cA, kA, h1, -, h2, h3, h4⟩ := Cond.arrayOver_spec h
  exact ⟨cA, fun n z => ⟨fun k h => (by cases h), kA, h2, comp, h3⟩, kA, comp, h2, h3, h1, h4⟩
set_option maxHeartbeats 4000000 in
set_option maxRecDepth 100000 in
/-- the law's entry -/
theorem rv_start {p : Program} {s : State} {m : MethodId} {meth : Method} {c : Code} {b L : Nat} {xs : Nat → Int32} (C0 : lw_At p s m meth c b L xs) : ∃ (D : va_G) (cT : Nat → ClassId) (ex : Nat → Nat → Nat), cT 99 = 0 ∧ ex 5 0 = b ∧ ex 7 0 = (xs 1).toInt.toNat ∧ ∀ sc : List (Int × Int), rvSx ex (fun q : Nat => s.heap.size ≤ q) s sc → rvCx p s m #[Value.ref b] meth c code RL 7 D cT ex (fun q : Nat => s.heap.size ≤ q) false sc := by
  obtain ⟨hx, hb, hr, hml, hown, hts, hX, hbl, hlocks, hgv⟩ := C0
  have hA : ∀ a : Nat, a < s.heap.size → ¬ (fun q : Nat => s.heap.size ≤ q) a := fun a h1 h2 => absurd h2 (Nat.not_le.mpr h1)
  have hwl : ∀ w ∈ rvWl, w.before #[Value.ref b] s = true := fun w h => hts w (List.mem_filter.mp h).1
  -- the classes
  have hcls : ∀ k : Nat, ∃ q : ClassId × (Nat → Nat), k < 13 → u_Kn s (rvCn k) (rvFt k) (rvNf k) q.1 q.2 := by
    intro k
    by_cases hk : k < 13
    · obtain ⟨⟨h1, h2, h3, h4⟩, -, -⟩ := rvCl k hk
      obtain ⟨cC, iS, h5⟩ := u_known (C := rvCn k) (T := rvFt k) (N := rvNf k) (n := rvNf k) hwl h3 (hwl _ h1)
      exact ⟨(cC, iS), fun _ => h5⟩
    · exact ⟨(0, fun _ => 0), fun h => absurd h hk⟩
  obtain ⟨dc, hdc⟩ := Classical.axiomOfChoice hcls
  obtain ⟨c0, a0, r0⟩ := rv_arr (hts _ rv_a0) (fun C q => by cases q)
  obtain ⟨c1, a1, r1⟩ := rv_arr (hts _ rv_a1) (fun C q => by cases q)
  obtain ⟨c2, a2, r2⟩ := rv_arr (hts _ rv_a2) (fun C q => by cases q)
  obtain ⟨c3, a3, r3⟩ := rv_arr (hts _ rv_a3) (fun C q => by cases q)
  obtain ⟨c4, a4, r4⟩ := rv_arq (hts _ rv_w6)
  obtain ⟨c5, a5, r5⟩ := rv_arq (hts _ rv_w7)
  obtain ⟨adK, adV, hSt, hev⟩ := vk_Sof (args := #[Value.ref b]) (s := s) (N := 1) (tm := fun _ => rvTm) (len := [rvTxt.length]) (byt := [rvTxt.map Int32.ofInt]) (A := fun q : Nat => s.heap.size ≤ q)
    (fun i hi => by
      have : i = 0 := by omega
      subst this
      show rvTxt.length < 2 ^ 31
      decide +kernel)
    (fun i hi => rvFl_ok rv_iex hgv) (fun i hi => rvFl_ok rv_ico hgv) (fun i hi => rvFl_ok rv_iar hgv)
    (fun i hi => by
      have : i = 0 := by omega
      subst this
      exact rvFl_ok rv_ile hgv)
    (fun i hi j hj => by
      have : i = 0 := by omega
      subst this
      have hj : j < rvTxt.length := hj
      exact rvFl_ok (rv_iel j (Nat.lt_of_lt_of_eq hj (by decide +kernel))) hgv)
    (fun i j hi hj hij => absurd (by omega) hij) hA
  refine ⟨(fun k => (dc k).1, fun k => (dc k).2), fun n => match n with
    | 0 => c0
    | 1 => c1
    | 2 => c2
    | 3 => c3
    | 4 => c4
    | 5 => c5
    | _ => 0, fun t k => bif Nat.beq t 3 then adK 0 else bif Nat.beq t 4 then adV 0 else bif Nat.beq t 7 then (xs 1).toInt.toNat else b, rfl, rfl, rfl, fun sc hsc => ⟨hx, hb, hml, hown, hwl, ⟨fun k q hq => ?_, fun k q hq => ?_⟩, fun q h => h, ⟨fun w hw => ?_, va_AO.of (hts _ rv_w6), va_AO.of (hts _ rv_w7), vk_R.of (A := #[Value.ref b]) (hts _ rv_w1) (hev 0 (by decide)), ?_, va_Zof (hts _ rv_w2) (hts _ rv_w4) (va_eqi (rvFl_ok rv_icp hgv)) hA, va_Zqof (hts _ rv_w3) (hts _ rv_w5) (rvFl_ok rv_isi hgv) hA⟩, fun q => (by cases q), hsc⟩⟩
  · by_cases hk : k < 13
    · obtain ⟨-, h2, -⟩ := rvCl k hk
      have e1 := Option.some.inj (h2.symm.trans hq)
      rw [← e1]
      exact hdc k hk
    · rw [rvCl_none hk] at hq
      cases hq
  · match k, hq with
    | 0, hq => cases hq; exact ⟨a0, r0⟩
    | 1, hq => cases hq; exact ⟨a1, r1⟩
    | 2, hq => cases hq; exact ⟨a2, r2⟩
    | 3, hq => cases hq; exact ⟨a3, r3⟩
    | 4, hq => cases hq; exact ⟨a4, r4⟩
    | 5, hq => cases hq; exact ⟨a5, r5⟩
    | n + 6, hq => cases hq
  · obtain ⟨h1, h2⟩ := List.mem_filter.mp hw
    have h3 := hts w h1
    cases w <;> first | exact va_Nw.of rfl h3 | cases h2
  · refine ⟨fun i hi => ?_, fun i j hi hj _ => by omega⟩
    have : i = 0 := by omega
    subst this
    exact hSt.1 0 (by decide)
end
section
section RVA
variable {tys : Nat → Nat → FieldType} {nf : Nat → Nat} {txt : List Int} {sc : List (Int × Int)} {call : Nat → List rvV → rvH → rvO} {info : Nat → rvM} {tab : Nat → Option rvE} {stop BF BC BS BL mL : Nat}
/-- a run behind a run -/
theorem rvRun_add {b : Nat} {o : rvS} {pc1 : Nat} {al1 st1 : List rvV} {aw1 : rvH} {kc1 ks1 : Nat} (h2 : rvRun tys nf txt sc call info tab stop BF BC BS BL mL b pc1 al1 st1 aw1 kc1 ks1 = some o) :
    ∀ (a pc : Nat) (al st : List rvV) (aw : rvH) (kc ks : Nat), rvRun tys nf txt sc call info tab stop BF BC BS BL mL a pc al st aw kc ks = some (pc1, al1, st1, aw1, kc1, ks1) → rvRun tys nf txt sc call info tab stop BF BC BS BL mL (a + b) pc al st aw kc ks = some o
  | 0, pc, al, st, aw, kc, ks, h => by
      have h : some (pc, al, st, aw, kc, ks) = some (pc1, al1, st1, aw1, kc1, ks1) := h
      cases h
      rw [Nat.zero_add]
      exact h2
  | a + 1, pc, al, st, aw, kc, ks, h => by
      have h : (match rvNext tys nf txt sc call info tab stop BF BC BS BL mL pc al st aw kc ks with
        | none => none
        | some none => some (pc, al, st, aw, kc, ks)
        | some (some (pc, al, st, aw, kc, ks)) => rvRun tys nf txt sc call info tab stop BF BC BS BL mL a pc al st aw kc ks) = some (pc1, al1, st1, aw1, kc1, ks1) := h
      rw [show a + 1 + b = (a + b) + 1 by omega]
      show (match rvNext tys nf txt sc call info tab stop BF BC BS BL mL pc al st aw kc ks with
        | none => none
        | some none => some (pc, al, st, aw, kc, ks)
        | some (some (pc, al, st, aw, kc, ks)) => rvRun tys nf txt sc call info tab stop BF BC BS BL mL (a + b) pc al st aw kc ks) = some o
      split at h
      · cases h
      · rename_i hn
        cases h
        cases b with
        | zero => exact h2
        | succ b =>
          have h2 : (match rvNext tys nf txt sc call info tab stop BF BC BS BL mL pc1 al1 st1 aw1 kc1 ks1 with
            | none => none
            | some none => some (pc1, al1, st1, aw1, kc1, ks1)
            | some (some (pc, al, st, aw, kc, ks)) => rvRun tys nf txt sc call info tab stop BF BC BS BL mL b pc al st aw kc ks) = some o := h2
          rw [hn] at h2
          exact h2
      · rename_i pc9 al9 st9 aw9 kc9 ks9 hn
        exact rvRun_add h2 a pc9 al9 st9 aw9 kc9 ks9 h
end RVA
def rvI1 : DecidableEq rvV := inferInstance
def rvI8 : DecidableEq rvC := @instDecidableEqSum _ _ (@instDecidableEqProd _ _ _ (@instDecidableEqList _ rvI1)) (@instDecidableEqProd _ _ _ (@instDecidableEqProd _ _ _ (@instDecidableEqProd _ _ rvI1 (@instDecidableEqList _ (@instDecidableEqProd _ _ _ rvI1)))))
def rvI9 : DecidableEq rvH := @instDecidableEqList _ rvI8
def rvOk (o : Option rvS) (r : rvS) : Bool := match o with
  | some (pc, al, st, aw, kc, ks) => Nat.beq pc r.1 && (decide (al = r.2.1) && (decide (st = r.2.2.1) && (@decide (aw = r.2.2.2.1) (rvI9 aw r.2.2.2.1) && (Nat.beq kc r.2.2.2.2.1 && Nat.beq ks r.2.2.2.2.2))))
  | none => false
theorem rvOk_ok {o : Option rvS} {r : rvS} (h : rvOk o r = true) : o = some r := by
  obtain ⟨a, b, c, d, e, f⟩ := r
  unfold rvOk at h
  split at h
  · rename_i pc al st aw kc ks
    obtain ⟨h1, h⟩ := rv_and h
    obtain ⟨h2, h⟩ := rv_and h
    obtain ⟨h3, h⟩ := rv_and h
    obtain ⟨h4, h⟩ := rv_and h
    obtain ⟨h5, h6⟩ := rv_and h
    have e1 : pc = a := rv_beq h1
    have e2 : al = b := of_decide_eq_true h2
    have e3 : st = c := of_decide_eq_true h3
    have e4 : aw = d := @of_decide_eq_true _ (rvI9 aw d) h4
    have e5 : kc = e := rv_beq h5
    have e6 : ks = f := rv_beq h6
    rw [e1, e2, e3, e4, e5, e6]
  · cases h
def rvOkm (o r : rvO) : Bool := match o, r with
  | some (v, aw), some (w, ax) => decide (v = w) && @decide (aw = ax) (rvI9 aw ax)
  | _, _ => false
theorem rvOkm_ok {o r : rvO} (h : rvOkm o r = true) : o = r := by
  unfold rvOkm at h
  split at h
  · rename_i v aw w ax
    obtain ⟨h1, h2⟩ := rv_and h
    have e1 : v = w := of_decide_eq_true h1
    have e2 : aw = ax := @of_decide_eq_true _ (rvI9 aw ax) h2
    rw [e1, e2]
  · cases h
noncomputable def rvX0 (d : Nat) : Nat → List rvV → rvH → rvO := rvExec rvTy rvNf rvTxt (fun _ _ _ => none) rvInf rvRet rvTab 100000 d
def rvAwT : rvH := [.inl (11, [.inr (0, 0), .inr (0, 0), .inr (0, 0), .inr (0, 0), .inr (0, 0), .inr (0, 0), .inr (0, 0), .inr (0, 0), .inr (0, 0), .inr (0, 0), .inr (0, 0), .inr (0, 0), .inr (0, 0), .inr (0, 0), .inl (0, 0)]), .inl (9, [.inr (0, 0), .inr (0, 0), .inl (0, 0), .inr (0, 0), .inr (0, 0), .inr (0, 0), .inr (0, 0), .inl (0, 0), .inl (0, 0), .inl (0, 0), .inl (0, 0), .inl (0, 0), .inr (1, 0), .inl (0, 0), .inl (0, 0)])]
def rvAwU : rvH := [.inl (11, [.inr (0, 0), .inr (0, 0), .inr (0, 0), .inr (0, 0), .inr (0, 0), .inr (0, 0), .inr (0, 0), .inr (0, 0), .inr (0, 0), .inr (0, 0), .inr (0, 0), .inr (0, 0), .inr (0, 0), .inr (0, 0), .inl (0, 0)]), .inl (9, [.inr (2, 2), .inr (2, 3), .inl (0, 0), .inr (2, 4), .inr (2, 5), .inr (2, 6), .inr (2, 7), .inl (0, 0), .inl (0, 0), .inl (0, 0), .inl (0, 0), .inl (0, 0), .inr (1, 0), .inl (0, 0), .inl (0, 0)]), .inr (1, 940, .inl (0, 0), []), .inr (3, 23, .inr (1, 0), []), .inr (1, 941, .inl (0, 0), []), .inr (0, 941, .inl (0, 0), []), .inr (0, 941, .inl (0, 0), []), .inr (3, 941, .inr (1, 0), [])]
theorem tp_0 : rvRun rvTy rvNf rvTxt [] (rvX0 6) rvInf (rvTab 1) 99999999 4 6 4727 85 6 250 0 [.inr (2, 1), .inr (9, 0), .inr (9, 0), .inr (9, 0), .inr (9, 0), .inr (9, 0)] [] [.inl (11, [.inr (0, 0), .inr (0, 0), .inr (0, 0), .inr (0, 0), .inr (0, 0), .inr (0, 0), .inr (0, 0), .inr (0, 0), .inr (0, 0), .inr (0, 0), .inr (0, 0), .inr (0, 0), .inr (0, 0), .inr (0, 0), .inl (0, 0)]), .inl (9, [.inr (0, 0), .inr (0, 0), .inl (0, 0), .inr (0, 0), .inr (0, 0), .inr (0, 0), .inr (0, 0), .inl (0, 0), .inl (0, 0), .inl (0, 0), .inl (0, 0), .inl (0, 0), .inr (1, 0), .inl (0, 0), .inl (0, 0)])] 0 0 = some (93, [.inr (2, 1), .inl (1, 1), .inr (1, 0), .inr (9, 0), .inl (10, 10), .inl (109, 109)], [.inl (32, 32), .inl (109, 109)], [.inl (11, [.inr (0, 0), .inr (0, 0), .inr (0, 0), .inr (0, 0), .inr (0, 0), .inr (0, 0), .inr (0, 0), .inr (0, 0), .inr (0, 0), .inr (0, 0), .inr (0, 0), .inr (0, 0), .inr (0, 0), .inr (0, 0), .inl (0, 0)]), .inl (9, [.inr (2, 2), .inr (2, 3), .inl (0, 0), .inr (2, 4), .inr (2, 5), .inr (2, 6), .inr (2, 7), .inl (0, 0), .inl (0, 0), .inl (0, 0), .inl (0, 0), .inl (0, 0), .inr (1, 0), .inl (0, 0), .inl (0, 0)]), .inr (1, 940, .inl (0, 0), []), .inr (3, 23, .inr (1, 0), []), .inr (1, 941, .inl (0, 0), []), .inr (0, 941, .inl (0, 0), []), .inr (0, 941, .inl (0, 0), []), .inr (3, 941, .inr (1, 0), [])], 6, 4727) := rvOk_ok (by decide +kernel)
theorem tp_1 : rvRun rvTy rvNf rvTxt [] (rvX0 6) rvInf (rvTab 1) 99999999 4 6 4727 85 6 250 93 [.inr (2, 1), .inl (1, 1), .inr (1, 0), .inr (9, 0), .inl (10, 10), .inl (109, 109)] [.inl (32, 32), .inl (109, 109)] [.inl (11, [.inr (0, 0), .inr (0, 0), .inr (0, 0), .inr (0, 0), .inr (0, 0), .inr (0, 0), .inr (0, 0), .inr (0, 0), .inr (0, 0), .inr (0, 0), .inr (0, 0), .inr (0, 0), .inr (0, 0), .inr (0, 0), .inl (0, 0)]), .inl (9, [.inr (2, 2), .inr (2, 3), .inl (0, 0), .inr (2, 4), .inr (2, 5), .inr (2, 6), .inr (2, 7), .inl (0, 0), .inl (0, 0), .inl (0, 0), .inl (0, 0), .inl (0, 0), .inr (1, 0), .inl (0, 0), .inl (0, 0)]), .inr (1, 940, .inl (0, 0), []), .inr (3, 23, .inr (1, 0), []), .inr (1, 941, .inl (0, 0), []), .inr (0, 941, .inl (0, 0), []), .inr (0, 941, .inl (0, 0), []), .inr (3, 941, .inr (1, 0), [])] 6 4727 = some (93, [.inr (2, 1), .inl (3, 3), .inr (1, 0), .inr (9, 0), .inl (22, 22), .inl (107, 107)], [.inl (32, 32), .inl (107, 107)], [.inl (11, [.inr (0, 0), .inr (0, 0), .inr (0, 0), .inr (0, 0), .inr (0, 0), .inr (0, 0), .inr (0, 0), .inr (0, 0), .inr (0, 0), .inr (0, 0), .inr (0, 0), .inr (0, 0), .inr (0, 0), .inr (0, 0), .inl (0, 0)]), .inl (9, [.inr (2, 2), .inr (2, 3), .inl (0, 0), .inr (2, 4), .inr (2, 5), .inr (2, 6), .inr (2, 7), .inl (0, 0), .inl (0, 0), .inl (0, 0), .inl (0, 0), .inl (0, 0), .inr (1, 0), .inl (0, 0), .inl (0, 0)]), .inr (1, 940, .inl (0, 0), []), .inr (3, 23, .inr (1, 0), []), .inr (1, 941, .inl (0, 0), []), .inr (0, 941, .inl (0, 0), []), .inr (0, 941, .inl (0, 0), []), .inr (3, 941, .inr (1, 0), [])], 6, 4727) := rvOk_ok (by decide +kernel)
theorem tp_2 : rvRun rvTy rvNf rvTxt [] (rvX0 6) rvInf (rvTab 1) 99999999 4 6 4727 85 6 250 93 [.inr (2, 1), .inl (3, 3), .inr (1, 0), .inr (9, 0), .inl (22, 22), .inl (107, 107)] [.inl (32, 32), .inl (107, 107)] [.inl (11, [.inr (0, 0), .inr (0, 0), .inr (0, 0), .inr (0, 0), .inr (0, 0), .inr (0, 0), .inr (0, 0), .inr (0, 0), .inr (0, 0), .inr (0, 0), .inr (0, 0), .inr (0, 0), .inr (0, 0), .inr (0, 0), .inl (0, 0)]), .inl (9, [.inr (2, 2), .inr (2, 3), .inl (0, 0), .inr (2, 4), .inr (2, 5), .inr (2, 6), .inr (2, 7), .inl (0, 0), .inl (0, 0), .inl (0, 0), .inl (0, 0), .inl (0, 0), .inr (1, 0), .inl (0, 0), .inl (0, 0)]), .inr (1, 940, .inl (0, 0), []), .inr (3, 23, .inr (1, 0), []), .inr (1, 941, .inl (0, 0), []), .inr (0, 941, .inl (0, 0), []), .inr (0, 941, .inl (0, 0), []), .inr (3, 941, .inr (1, 0), [])] 6 4727 = some (82, [.inr (2, 1), .inl (6, 6), .inr (1, 0), .inr (9, 0), .inl (34, 34), .inl (32, 32)], [.inr (3, 0)], [.inl (11, [.inr (0, 0), .inr (0, 0), .inr (0, 0), .inr (0, 0), .inr (0, 0), .inr (0, 0), .inr (0, 0), .inr (0, 0), .inr (0, 0), .inr (0, 0), .inr (0, 0), .inr (0, 0), .inr (0, 0), .inr (0, 0), .inl (0, 0)]), .inl (9, [.inr (2, 2), .inr (2, 3), .inl (0, 0), .inr (2, 4), .inr (2, 5), .inr (2, 6), .inr (2, 7), .inl (0, 0), .inl (0, 0), .inl (0, 0), .inl (0, 0), .inl (0, 0), .inr (1, 0), .inl (0, 0), .inl (0, 0)]), .inr (1, 940, .inl (0, 0), []), .inr (3, 23, .inr (1, 0), []), .inr (1, 941, .inl (0, 0), []), .inr (0, 941, .inl (0, 0), []), .inr (0, 941, .inl (0, 0), []), .inr (3, 941, .inr (1, 0), [])], 6, 4727) := rvOk_ok (by decide +kernel)
theorem tp_3 : rvRun rvTy rvNf rvTxt [] (rvX0 6) rvInf (rvTab 1) 99999999 4 6 4727 85 6 250 82 [.inr (2, 1), .inl (6, 6), .inr (1, 0), .inr (9, 0), .inl (34, 34), .inl (32, 32)] [.inr (3, 0)] [.inl (11, [.inr (0, 0), .inr (0, 0), .inr (0, 0), .inr (0, 0), .inr (0, 0), .inr (0, 0), .inr (0, 0), .inr (0, 0), .inr (0, 0), .inr (0, 0), .inr (0, 0), .inr (0, 0), .inr (0, 0), .inr (0, 0), .inl (0, 0)]), .inl (9, [.inr (2, 2), .inr (2, 3), .inl (0, 0), .inr (2, 4), .inr (2, 5), .inr (2, 6), .inr (2, 7), .inl (0, 0), .inl (0, 0), .inl (0, 0), .inl (0, 0), .inl (0, 0), .inr (1, 0), .inl (0, 0), .inl (0, 0)]), .inr (1, 940, .inl (0, 0), []), .inr (3, 23, .inr (1, 0), []), .inr (1, 941, .inl (0, 0), []), .inr (0, 941, .inl (0, 0), []), .inr (0, 941, .inl (0, 0), []), .inr (3, 941, .inr (1, 0), [])] 6 4727 = some (82, [.inr (2, 1), .inl (8, 8), .inr (1, 0), .inr (9, 0), .inl (46, 46), .inl (111, 111)], [.inr (3, 0)], [.inl (11, [.inr (0, 0), .inr (0, 0), .inr (0, 0), .inr (0, 0), .inr (0, 0), .inr (0, 0), .inr (0, 0), .inr (0, 0), .inr (0, 0), .inr (0, 0), .inr (0, 0), .inr (0, 0), .inr (0, 0), .inr (0, 0), .inl (0, 0)]), .inl (9, [.inr (2, 2), .inr (2, 3), .inl (0, 0), .inr (2, 4), .inr (2, 5), .inr (2, 6), .inr (2, 7), .inl (0, 0), .inl (0, 0), .inl (0, 0), .inl (0, 0), .inl (0, 0), .inr (1, 0), .inl (0, 0), .inl (0, 0)]), .inr (1, 940, .inl (0, 0), []), .inr (3, 23, .inr (1, 0), []), .inr (1, 941, .inl (0, 0), []), .inr (0, 941, .inl (0, 0), []), .inr (0, 941, .inl (0, 0), []), .inr (3, 941, .inr (1, 0), [])], 6, 4727) := rvOk_ok (by decide +kernel)
theorem tp_4 : rvRun rvTy rvNf rvTxt [] (rvX0 6) rvInf (rvTab 1) 99999999 4 6 4727 85 6 250 82 [.inr (2, 1), .inl (8, 8), .inr (1, 0), .inr (9, 0), .inl (46, 46), .inl (111, 111)] [.inr (3, 0)] [.inl (11, [.inr (0, 0), .inr (0, 0), .inr (0, 0), .inr (0, 0), .inr (0, 0), .inr (0, 0), .inr (0, 0), .inr (0, 0), .inr (0, 0), .inr (0, 0), .inr (0, 0), .inr (0, 0), .inr (0, 0), .inr (0, 0), .inl (0, 0)]), .inl (9, [.inr (2, 2), .inr (2, 3), .inl (0, 0), .inr (2, 4), .inr (2, 5), .inr (2, 6), .inr (2, 7), .inl (0, 0), .inl (0, 0), .inl (0, 0), .inl (0, 0), .inl (0, 0), .inr (1, 0), .inl (0, 0), .inl (0, 0)]), .inr (1, 940, .inl (0, 0), []), .inr (3, 23, .inr (1, 0), []), .inr (1, 941, .inl (0, 0), []), .inr (0, 941, .inl (0, 0), []), .inr (0, 941, .inl (0, 0), []), .inr (3, 941, .inr (1, 0), [])] 6 4727 = some (82, [.inr (2, 1), .inl (10, 10), .inr (1, 0), .inr (9, 0), .inl (58, 58), .inl (116, 116)], [.inr (3, 0)], [.inl (11, [.inr (0, 0), .inr (0, 0), .inr (0, 0), .inr (0, 0), .inr (0, 0), .inr (0, 0), .inr (0, 0), .inr (0, 0), .inr (0, 0), .inr (0, 0), .inr (0, 0), .inr (0, 0), .inr (0, 0), .inr (0, 0), .inl (0, 0)]), .inl (9, [.inr (2, 2), .inr (2, 3), .inl (0, 0), .inr (2, 4), .inr (2, 5), .inr (2, 6), .inr (2, 7), .inl (0, 0), .inl (0, 0), .inl (0, 0), .inl (0, 0), .inl (0, 0), .inr (1, 0), .inl (0, 0), .inl (0, 0)]), .inr (1, 940, .inl (0, 0), []), .inr (3, 23, .inr (1, 0), []), .inr (1, 941, .inl (0, 0), []), .inr (0, 941, .inl (0, 0), []), .inr (0, 941, .inl (0, 0), []), .inr (3, 941, .inr (1, 0), [])], 6, 4727) := rvOk_ok (by decide +kernel)
theorem tp_5 : rvRun rvTy rvNf rvTxt [] (rvX0 6) rvInf (rvTab 1) 99999999 4 6 4727 85 6 250 82 [.inr (2, 1), .inl (10, 10), .inr (1, 0), .inr (9, 0), .inl (58, 58), .inl (116, 116)] [.inr (3, 0)] [.inl (11, [.inr (0, 0), .inr (0, 0), .inr (0, 0), .inr (0, 0), .inr (0, 0), .inr (0, 0), .inr (0, 0), .inr (0, 0), .inr (0, 0), .inr (0, 0), .inr (0, 0), .inr (0, 0), .inr (0, 0), .inr (0, 0), .inl (0, 0)]), .inl (9, [.inr (2, 2), .inr (2, 3), .inl (0, 0), .inr (2, 4), .inr (2, 5), .inr (2, 6), .inr (2, 7), .inl (0, 0), .inl (0, 0), .inl (0, 0), .inl (0, 0), .inl (0, 0), .inr (1, 0), .inl (0, 0), .inl (0, 0)]), .inr (1, 940, .inl (0, 0), []), .inr (3, 23, .inr (1, 0), []), .inr (1, 941, .inl (0, 0), []), .inr (0, 941, .inl (0, 0), []), .inr (0, 941, .inl (0, 0), []), .inr (3, 941, .inr (1, 0), [])] 6 4727 = some (82, [.inr (2, 1), .inl (12, 12), .inr (1, 0), .inr (9, 0), .inl (70, 70), .inl (101, 101)], [.inr (3, 0)], [.inl (11, [.inr (0, 0), .inr (0, 0), .inr (0, 0), .inr (0, 0), .inr (0, 0), .inr (0, 0), .inr (0, 0), .inr (0, 0), .inr (0, 0), .inr (0, 0), .inr (0, 0), .inr (0, 0), .inr (0, 0), .inr (0, 0), .inl (0, 0)]), .inl (9, [.inr (2, 2), .inr (2, 3), .inl (0, 0), .inr (2, 4), .inr (2, 5), .inr (2, 6), .inr (2, 7), .inl (0, 0), .inl (0, 0), .inl (0, 0), .inl (0, 0), .inl (0, 0), .inr (1, 0), .inl (0, 0), .inl (0, 0)]), .inr (1, 940, .inl (0, 0), []), .inr (3, 23, .inr (1, 0), []), .inr (1, 941, .inl (0, 0), []), .inr (0, 941, .inl (0, 0), []), .inr (0, 941, .inl (0, 0), []), .inr (3, 941, .inr (1, 0), [])], 6, 4727) := rvOk_ok (by decide +kernel)
theorem tp_6 : rvRun rvTy rvNf rvTxt [] (rvX0 6) rvInf (rvTab 1) 99999999 4 6 4727 85 6 250 82 [.inr (2, 1), .inl (12, 12), .inr (1, 0), .inr (9, 0), .inl (70, 70), .inl (101, 101)] [.inr (3, 0)] [.inl (11, [.inr (0, 0), .inr (0, 0), .inr (0, 0), .inr (0, 0), .inr (0, 0), .inr (0, 0), .inr (0, 0), .inr (0, 0), .inr (0, 0), .inr (0, 0), .inr (0, 0), .inr (0, 0), .inr (0, 0), .inr (0, 0), .inl (0, 0)]), .inl (9, [.inr (2, 2), .inr (2, 3), .inl (0, 0), .inr (2, 4), .inr (2, 5), .inr (2, 6), .inr (2, 7), .inl (0, 0), .inl (0, 0), .inl (0, 0), .inl (0, 0), .inl (0, 0), .inr (1, 0), .inl (0, 0), .inl (0, 0)]), .inr (1, 940, .inl (0, 0), []), .inr (3, 23, .inr (1, 0), []), .inr (1, 941, .inl (0, 0), []), .inr (0, 941, .inl (0, 0), []), .inr (0, 941, .inl (0, 0), []), .inr (3, 941, .inr (1, 0), [])] 6 4727 = some (82, [.inr (2, 1), .inl (14, 14), .inr (1, 0), .inr (9, 0), .inl (82, 82), .inl (109, 109)], [.inr (3, 0)], [.inl (11, [.inr (0, 0), .inr (0, 0), .inr (0, 0), .inr (0, 0), .inr (0, 0), .inr (0, 0), .inr (0, 0), .inr (0, 0), .inr (0, 0), .inr (0, 0), .inr (0, 0), .inr (0, 0), .inr (0, 0), .inr (0, 0), .inl (0, 0)]), .inl (9, [.inr (2, 2), .inr (2, 3), .inl (0, 0), .inr (2, 4), .inr (2, 5), .inr (2, 6), .inr (2, 7), .inl (0, 0), .inl (0, 0), .inl (0, 0), .inl (0, 0), .inl (0, 0), .inr (1, 0), .inl (0, 0), .inl (0, 0)]), .inr (1, 940, .inl (0, 0), []), .inr (3, 23, .inr (1, 0), []), .inr (1, 941, .inl (0, 0), []), .inr (0, 941, .inl (0, 0), []), .inr (0, 941, .inl (0, 0), []), .inr (3, 941, .inr (1, 0), [])], 6, 4727) := rvOk_ok (by decide +kernel)
theorem tp_7 : rvRun rvTy rvNf rvTxt [] (rvX0 6) rvInf (rvTab 1) 99999999 4 6 4727 85 6 250 82 [.inr (2, 1), .inl (14, 14), .inr (1, 0), .inr (9, 0), .inl (82, 82), .inl (109, 109)] [.inr (3, 0)] [.inl (11, [.inr (0, 0), .inr (0, 0), .inr (0, 0), .inr (0, 0), .inr (0, 0), .inr (0, 0), .inr (0, 0), .inr (0, 0), .inr (0, 0), .inr (0, 0), .inr (0, 0), .inr (0, 0), .inr (0, 0), .inr (0, 0), .inl (0, 0)]), .inl (9, [.inr (2, 2), .inr (2, 3), .inl (0, 0), .inr (2, 4), .inr (2, 5), .inr (2, 6), .inr (2, 7), .inl (0, 0), .inl (0, 0), .inl (0, 0), .inl (0, 0), .inl (0, 0), .inr (1, 0), .inl (0, 0), .inl (0, 0)]), .inr (1, 940, .inl (0, 0), []), .inr (3, 23, .inr (1, 0), []), .inr (1, 941, .inl (0, 0), []), .inr (0, 941, .inl (0, 0), []), .inr (0, 941, .inl (0, 0), []), .inr (3, 941, .inr (1, 0), [])] 6 4727 = some (71, [.inr (2, 1), .inl (17, 17), .inr (1, 0), .inr (9, 0), .inl (94, 94), .inl (97, 97)], [.inl (123, 123), .inl (94, 94)], [.inl (11, [.inr (0, 0), .inr (0, 0), .inr (0, 0), .inr (0, 0), .inr (0, 0), .inr (0, 0), .inr (0, 0), .inr (0, 0), .inr (0, 0), .inr (0, 0), .inr (0, 0), .inr (0, 0), .inr (0, 0), .inr (0, 0), .inl (0, 0)]), .inl (9, [.inr (2, 2), .inr (2, 3), .inl (0, 0), .inr (2, 4), .inr (2, 5), .inr (2, 6), .inr (2, 7), .inl (0, 0), .inl (0, 0), .inl (0, 0), .inl (0, 0), .inl (0, 0), .inr (1, 0), .inl (0, 0), .inl (0, 0)]), .inr (1, 940, .inl (0, 0), []), .inr (3, 23, .inr (1, 0), []), .inr (1, 941, .inl (0, 0), []), .inr (0, 941, .inl (0, 0), []), .inr (0, 941, .inl (0, 0), []), .inr (3, 941, .inr (1, 0), [])], 6, 4727) := rvOk_ok (by decide +kernel)
theorem tp_8 : rvRun rvTy rvNf rvTxt [] (rvX0 6) rvInf (rvTab 1) 99999999 4 6 4727 85 6 250 71 [.inr (2, 1), .inl (17, 17), .inr (1, 0), .inr (9, 0), .inl (94, 94), .inl (97, 97)] [.inl (123, 123), .inl (94, 94)] [.inl (11, [.inr (0, 0), .inr (0, 0), .inr (0, 0), .inr (0, 0), .inr (0, 0), .inr (0, 0), .inr (0, 0), .inr (0, 0), .inr (0, 0), .inr (0, 0), .inr (0, 0), .inr (0, 0), .inr (0, 0), .inr (0, 0), .inl (0, 0)]), .inl (9, [.inr (2, 2), .inr (2, 3), .inl (0, 0), .inr (2, 4), .inr (2, 5), .inr (2, 6), .inr (2, 7), .inl (0, 0), .inl (0, 0), .inl (0, 0), .inl (0, 0), .inl (0, 0), .inr (1, 0), .inl (0, 0), .inl (0, 0)]), .inr (1, 940, .inl (0, 0), []), .inr (3, 23, .inr (1, 0), []), .inr (1, 941, .inl (0, 0), []), .inr (0, 941, .inl (0, 0), []), .inr (0, 941, .inl (0, 0), []), .inr (3, 941, .inr (1, 0), [])] 6 4727 = some (118, [.inr (2, 1), .inl (20, 20), .inr (1, 0), .inr (9, 0), .inl (105, 105), .inl (105, 105)], [], [.inl (11, [.inr (0, 0), .inr (0, 0), .inr (0, 0), .inr (0, 0), .inr (0, 0), .inr (0, 0), .inr (0, 0), .inr (0, 0), .inr (0, 0), .inr (0, 0), .inr (0, 0), .inr (0, 0), .inr (0, 0), .inr (0, 0), .inl (0, 0)]), .inl (9, [.inr (2, 2), .inr (2, 3), .inl (0, 0), .inr (2, 4), .inr (2, 5), .inr (2, 6), .inr (2, 7), .inl (0, 0), .inl (0, 0), .inl (0, 0), .inl (0, 0), .inl (0, 0), .inr (1, 0), .inl (0, 0), .inl (0, 0)]), .inr (1, 940, .inl (0, 0), []), .inr (3, 23, .inr (1, 0), []), .inr (1, 941, .inl (0, 0), []), .inr (0, 941, .inl (0, 0), []), .inr (0, 941, .inl (0, 0), []), .inr (3, 941, .inr (1, 0), [])], 6, 4727) := rvOk_ok (by decide +kernel)
theorem tp_9 : rvRun rvTy rvNf rvTxt [] (rvX0 6) rvInf (rvTab 1) 99999999 4 6 4727 85 6 250 118 [.inr (2, 1), .inl (20, 20), .inr (1, 0), .inr (9, 0), .inl (105, 105), .inl (105, 105)] [] [.inl (11, [.inr (0, 0), .inr (0, 0), .inr (0, 0), .inr (0, 0), .inr (0, 0), .inr (0, 0), .inr (0, 0), .inr (0, 0), .inr (0, 0), .inr (0, 0), .inr (0, 0), .inr (0, 0), .inr (0, 0), .inr (0, 0), .inl (0, 0)]), .inl (9, [.inr (2, 2), .inr (2, 3), .inl (0, 0), .inr (2, 4), .inr (2, 5), .inr (2, 6), .inr (2, 7), .inl (0, 0), .inl (0, 0), .inl (0, 0), .inl (0, 0), .inl (0, 0), .inr (1, 0), .inl (0, 0), .inl (0, 0)]), .inr (1, 940, .inl (0, 0), []), .inr (3, 23, .inr (1, 0), []), .inr (1, 941, .inl (0, 0), []), .inr (0, 941, .inl (0, 0), []), .inr (0, 941, .inl (0, 0), []), .inr (3, 941, .inr (1, 0), [])] 6 4727 = some (118, [.inr (2, 1), .inl (22, 22), .inr (1, 0), .inr (9, 0), .inl (117, 117), .inl (117, 117)], [], [.inl (11, [.inr (0, 0), .inr (0, 0), .inr (0, 0), .inr (0, 0), .inr (0, 0), .inr (0, 0), .inr (0, 0), .inr (0, 0), .inr (0, 0), .inr (0, 0), .inr (0, 0), .inr (0, 0), .inr (0, 0), .inr (0, 0), .inl (0, 0)]), .inl (9, [.inr (2, 2), .inr (2, 3), .inl (0, 0), .inr (2, 4), .inr (2, 5), .inr (2, 6), .inr (2, 7), .inl (0, 0), .inl (0, 0), .inl (0, 0), .inl (0, 0), .inl (0, 0), .inr (1, 0), .inl (0, 0), .inl (0, 0)]), .inr (1, 940, .inl (0, 0), []), .inr (3, 23, .inr (1, 0), []), .inr (1, 941, .inl (0, 0), []), .inr (0, 941, .inl (0, 0), []), .inr (0, 941, .inl (0, 0), []), .inr (3, 941, .inr (1, 0), [])], 6, 4727) := rvOk_ok (by decide +kernel)
theorem tp_10 : rvRun rvTy rvNf rvTxt [] (rvX0 6) rvInf (rvTab 1) 99999999 4 6 4727 85 6 250 118 [.inr (2, 1), .inl (22, 22), .inr (1, 0), .inr (9, 0), .inl (117, 117), .inl (117, 117)] [] [.inl (11, [.inr (0, 0), .inr (0, 0), .inr (0, 0), .inr (0, 0), .inr (0, 0), .inr (0, 0), .inr (0, 0), .inr (0, 0), .inr (0, 0), .inr (0, 0), .inr (0, 0), .inr (0, 0), .inr (0, 0), .inr (0, 0), .inl (0, 0)]), .inl (9, [.inr (2, 2), .inr (2, 3), .inl (0, 0), .inr (2, 4), .inr (2, 5), .inr (2, 6), .inr (2, 7), .inl (0, 0), .inl (0, 0), .inl (0, 0), .inl (0, 0), .inl (0, 0), .inr (1, 0), .inl (0, 0), .inl (0, 0)]), .inr (1, 940, .inl (0, 0), []), .inr (3, 23, .inr (1, 0), []), .inr (1, 941, .inl (0, 0), []), .inr (0, 941, .inl (0, 0), []), .inr (0, 941, .inl (0, 0), []), .inr (3, 941, .inr (1, 0), [])] 6 4727 = some (124, [.inr (2, 1), .inl (23, 23), .inr (1, 0), .inr (9, 0), .inl (123, 123), .inl (32, 32)], [], [.inl (11, [.inr (0, 0), .inr (0, 0), .inr (0, 0), .inr (0, 0), .inr (0, 0), .inr (0, 0), .inr (0, 0), .inr (0, 0), .inr (0, 0), .inr (0, 0), .inr (0, 0), .inr (0, 0), .inr (0, 0), .inr (0, 0), .inl (0, 0)]), .inl (9, [.inr (2, 2), .inr (2, 3), .inl (0, 0), .inr (2, 4), .inr (2, 5), .inr (2, 6), .inr (2, 7), .inl (0, 0), .inl (0, 0), .inl (0, 0), .inl (0, 0), .inl (0, 0), .inr (1, 0), .inl (0, 0), .inl (0, 0)]), .inr (1, 940, .inl (0, 0), []), .inr (3, 23, .inr (1, 0), []), .inr (1, 941, .inl (0, 0), []), .inr (0, 941, .inl (0, 0), []), .inr (0, 941, .inl (0, 0), []), .inr (3, 941, .inr (1, 0), [])], 6, 4727) := rvOk_ok (by decide +kernel)
theorem rvInf_T : rvInf 1 = (6, 4, 6, 4727, 85, 9) := by decide +kernel
theorem tp_all : rvRun rvTy rvNf rvTxt [] (rvX0 6) rvInf (rvTab 1) 99999999 4 6 4727 85 6 (250 + (250 + (250 + (250 + (250 + (250 + (250 + (250 + (250 + (250 + 250)))))))))) 0 [.inr (2, 1), .inr (9, 0), .inr (9, 0), .inr (9, 0), .inr (9, 0), .inr (9, 0)] [] rvAwT 0 0 = some (124, [.inr (2, 1), .inl (23, 23), .inr (1, 0), .inr (9, 0), .inl (123, 123), .inl (32, 32)], [], [.inl (11, [.inr (0, 0), .inr (0, 0), .inr (0, 0), .inr (0, 0), .inr (0, 0), .inr (0, 0), .inr (0, 0), .inr (0, 0), .inr (0, 0), .inr (0, 0), .inr (0, 0), .inr (0, 0), .inr (0, 0), .inr (0, 0), .inl (0, 0)]), .inl (9, [.inr (2, 2), .inr (2, 3), .inl (0, 0), .inr (2, 4), .inr (2, 5), .inr (2, 6), .inr (2, 7), .inl (0, 0), .inl (0, 0), .inl (0, 0), .inl (0, 0), .inl (0, 0), .inr (1, 0), .inl (0, 0), .inl (0, 0)]), .inr (1, 940, .inl (0, 0), []), .inr (3, 23, .inr (1, 0), []), .inr (1, 941, .inl (0, 0), []), .inr (0, 941, .inl (0, 0), []), .inr (0, 941, .inl (0, 0), []), .inr (3, 941, .inr (1, 0), [])], 6, 4727) := (rvRun_add (rvRun_add (rvRun_add (rvRun_add (rvRun_add (rvRun_add (rvRun_add (rvRun_add (rvRun_add (rvRun_add tp_10 _ _ _ _ _ _ _ tp_9) _ _ _ _ _ _ _ tp_8) _ _ _ _ _ _ _ tp_7) _ _ _ _ _ _ _ tp_6) _ _ _ _ _ _ _ tp_5) _ _ _ _ _ _ _ tp_4) _ _ _ _ _ _ _ tp_3) _ _ _ _ _ _ _ tp_2) _ _ _ _ _ _ _ tp_1) _ _ _ _ _ _ _ tp_0)
theorem rvMet_T {l : Launch} {D : va_G} {cB : Nat → ClassId} {ex : Nat → Nat → Nat} : rvMet l D cB ex rvYn rvCd rvInf rvRet 1 [.inr (2, 1)] rvAwT (none, rvAwU) := by
  refine rvBody_ok (call := rvX0 6) rvBase_ok rvM_all rvT_all (fun j as aw r hj h => rvExec_ok rvBase_ok rvM_all rvT_all (fun _ _ _ _ _ h => by cases h) 100000 6 j as aw r hj h) (n := (250 + (250 + (250 + (250 + (250 + (250 + (250 + (250 + (250 + (250 + 250))))))))))) (by decide) (by rw [rvInf_T]; decide) ?_
  rw [rvInf_T]
  show rvEnd (rvTab 1) (rvRet 1) 6 4727 (rvRun rvTy rvNf rvTxt [] (rvX0 6) rvInf (rvTab 1) 99999999 4 6 4727 85 6 (250 + (250 + (250 + (250 + (250 + (250 + (250 + (250 + (250 + (250 + 250)))))))))) 0 [.inr (2, 1), .inr (9, 0), .inr (9, 0), .inr (9, 0), .inr (9, 0), .inr (9, 0)] [] rvAwT 0 0) = _
  rw [tp_all]
  exact rvOkm_ok (by decide +kernel)
def rvOrc1 : Nat → List rvV → rvH → rvO := fun j as aw => bif Nat.beq j 1 && (decide (as = [.inr (2, 1)]) && @decide (aw = rvAwT) (rvI9 aw rvAwT)) then some (none, rvAwU) else none
theorem rvOrc1_ok {l : Launch} {D : va_G} {cB : Nat → ClassId} {ex : Nat → Nat → Nat} : ∀ j as aw r, j < 168 → rvOrc1 j as aw = some r → rvMet l D cB ex rvYn rvCd rvInf rvRet j as aw r := by
  intro j as aw r hj h
  obtain ⟨hc, rfl⟩ := rv_bif h
  obtain ⟨h1, h2⟩ := rv_and hc
  obtain ⟨h2, h3⟩ := rv_and h2
  have e1 := rv_beq h1
  have e2 := of_decide_eq_true h2
  have e3 : aw = rvAwT := @of_decide_eq_true _ (rvI9 aw rvAwT) h3
  subst e1; subst e2; subst e3
  exact rvMet_T
noncomputable def rvX1 (d : Nat) : Nat → List rvV → rvH → rvO := rvExec rvTy rvNf rvTxt rvOrc1 rvInf rvRet rvTab 100000 d
def rvAw0 : rvH := [.inl (11, [.inr (2, 1), .inr (2, 35), .inr (2, 41), .inr (2, 47), .inr (2, 8), .inr (2, 9), .inr (2, 10), .inr (2, 11), .inr (2, 12), .inr (2, 13), .inr (2, 17), .inr (2, 22), .inr (2, 25), .inr (0, 0), .inl (0, 0)]), .inl (9, [.inr (2, 2), .inr (2, 3), .inl (0, 0), .inr (2, 4), .inr (2, 5), .inr (2, 6), .inr (2, 7), .inl (0, 0), .inl (0, 0), .inl (0, 0), .inl (0, 0), .inl (0, 0), .inr (1, 0), .inl (0, 0), .inl (0, 0)]), .inr (1, 940, .inl (0, 0), []), .inr (3, 23, .inr (1, 0), []), .inr (1, 941, .inl (0, 0), []), .inr (0, 941, .inl (0, 0), []), .inr (0, 941, .inl (0, 0), []), .inr (3, 941, .inr (1, 0), []), .inr (4, 2, .inr (0, 0), [(0, .inr (2, 97)), (1, .inr (2, 103))]), .inr (2, 2, .inl (0, 0), []), .inr (5, 2, .inr (0, 0), []), .inl (1, [.inr (2, 1), .inr (0, 0), .inr (0, 0)]), .inl (7, [.inr (2, 1), .inr (0, 0), .inr (0, 0), .inl (0, 0)]), .inl (0, [.inr (2, 14), .inr (2, 15), .inr (2, 16), .inl (0, 0), .inl (0, 0), .inl (0, 0), .inl (0, 0), .inl (0, 0), .inl (0, 0)]), .inr (0, 40, .inl (0, 0), []), .inr (0, 40, .inl (0, 0), []), .inr (0, 40, .inl (0, 0), []), .inl (5, [.inl ((-1), (-1)), .inl ((-1), (-1)), .inl ((-1), (-1)), .inl ((-1), (-1)), .inr (2, 18), .inr (2, 19), .inr (2, 20), .inr (2, 21), .inl (0, 0), .inl (0, 0)]), .inr (0, 1024, .inl (0, 0), []), .inr (0, 1024, .inl (0, 0), []), .inr (0, 128, .inl (0, 0), []), .inr (0, 10, .inl (0, 0), []), .inl (8, [.inl ((-1), (-1)), .inl ((-1), (-1)), .inr (2, 23), .inr (2, 24), .inl (0, 0)]), .inr (0, 1024, .inl (0, 0), []), .inr (0, 11, .inl (0, 0), []), .inl (4, [.inr (2, 26), .inl (0, 0)]), .inr (0, 64, .inl (0, 0), []), .inl (10, [.inr (2, 28), .inr (2, 29), .inr (2, 30), .inr (2, 31), .inr (2, 32), .inr (2, 33), .inr (2, 34), .inl (0, 0)]), .inr (0, 4, .inl (0, 0), []), .inr (3, 40, .inr (1, 0), []), .inr (0, 10, .inl (0, 0), []), .inr (0, 30, .inl (0, 0), []), .inr (0, 3, .inl (0, 0), []), .inr (0, 3, .inl (0, 0), []), .inr (0, 3, .inl (0, 0), []), .inl (2, [.inr (2, 27), .inl (0, 0), .inl (0, 0), .inl (0, 0), .inl (0, 0), .inl (0, 0), .inr (2, 36), .inr (2, 37), .inr (2, 38), .inr (2, 39), .inr (2, 40)]), .inr (0, 10, .inl (0, 0), []), .inr (0, 3, .inl (0, 0), []), .inr (0, 12, .inl (0, 0), []), .inr (0, 10, .inl (0, 0), []), .inr (0, 36, .inl (0, 0), []), .inl (2, [.inr (2, 27), .inl (0, 0), .inl (0, 0), .inl (0, 0), .inl (0, 0), .inl (0, 0), .inr (2, 42), .inr (2, 43), .inr (2, 44), .inr (2, 45), .inr (2, 46)]), .inr (0, 10, .inl (0, 0), []), .inr (0, 3, .inl (0, 0), []), .inr (0, 12, .inl (0, 0), []), .inr (0, 10, .inl (0, 0), []), .inr (0, 36, .inl (0, 0), []), .inl (3, [.inr (2, 48), .inl (0, 0)]), .inr (4, 8, .inr (0, 0), [(0, .inr (2, 49)), (1, .inr (2, 55)), (2, .inr (2, 61)), (3, .inr (2, 67)), (4, .inr (2, 73)), (5, .inr (2, 79)), (6, .inr (2, 85)), (7, .inr (2, 91))]), .inl (2, [.inr (2, 27), .inl (0, 0), .inl (0, 0), .inl (0, 0), .inl (0, 0), .inl (0, 0), .inr (2, 50), .inr (2, 51), .inr (2, 52), .inr (2, 53), .inr (2, 54)]), .inr (0, 10, .inl (0, 0), []), .inr (0, 3, .inl (0, 0), []), .inr (0, 12, .inl (0, 0), []), .inr (0, 10, .inl (0, 0), []), .inr (0, 36, .inl (0, 0), []), .inl (2, [.inr (2, 27), .inl (0, 0), .inl (0, 0), .inl (0, 0), .inl (0, 0), .inl (0, 0), .inr (2, 56), .inr (2, 57), .inr (2, 58), .inr (2, 59), .inr (2, 60)]), .inr (0, 10, .inl (0, 0), []), .inr (0, 3, .inl (0, 0), []), .inr (0, 12, .inl (0, 0), []), .inr (0, 10, .inl (0, 0), []), .inr (0, 36, .inl (0, 0), []), .inl (2, [.inr (2, 27), .inl (0, 0), .inl (0, 0), .inl (0, 0), .inl (0, 0), .inl (0, 0), .inr (2, 62), .inr (2, 63), .inr (2, 64), .inr (2, 65), .inr (2, 66)]), .inr (0, 10, .inl (0, 0), []), .inr (0, 3, .inl (0, 0), []), .inr (0, 12, .inl (0, 0), []), .inr (0, 10, .inl (0, 0), []), .inr (0, 36, .inl (0, 0), []), .inl (2, [.inr (2, 27), .inl (0, 0), .inl (0, 0), .inl (0, 0), .inl (0, 0), .inl (0, 0), .inr (2, 68), .inr (2, 69), .inr (2, 70), .inr (2, 71), .inr (2, 72)]), .inr (0, 10, .inl (0, 0), []), .inr (0, 3, .inl (0, 0), []), .inr (0, 12, .inl (0, 0), []), .inr (0, 10, .inl (0, 0), []), .inr (0, 36, .inl (0, 0), []), .inl (2, [.inr (2, 27), .inl (0, 0), .inl (0, 0), .inl (0, 0), .inl (0, 0), .inl (0, 0), .inr (2, 74), .inr (2, 75), .inr (2, 76), .inr (2, 77), .inr (2, 78)]), .inr (0, 10, .inl (0, 0), []), .inr (0, 3, .inl (0, 0), []), .inr (0, 12, .inl (0, 0), []), .inr (0, 10, .inl (0, 0), []), .inr (0, 36, .inl (0, 0), []), .inl (2, [.inr (2, 27), .inl (0, 0), .inl (0, 0), .inl (0, 0), .inl (0, 0), .inl (0, 0), .inr (2, 80), .inr (2, 81), .inr (2, 82), .inr (2, 83), .inr (2, 84)]), .inr (0, 10, .inl (0, 0), []), .inr (0, 3, .inl (0, 0), []), .inr (0, 12, .inl (0, 0), []), .inr (0, 10, .inl (0, 0), []), .inr (0, 36, .inl (0, 0), []), .inl (2, [.inr (2, 27), .inl (0, 0), .inl (0, 0), .inl (0, 0), .inl (0, 0), .inl (0, 0), .inr (2, 86), .inr (2, 87), .inr (2, 88), .inr (2, 89), .inr (2, 90)]), .inr (0, 10, .inl (0, 0), []), .inr (0, 3, .inl (0, 0), []), .inr (0, 12, .inl (0, 0), []), .inr (0, 10, .inl (0, 0), []), .inr (0, 36, .inl (0, 0), []), .inl (2, [.inr (2, 27), .inl (0, 0), .inl (0, 0), .inl (0, 0), .inl (0, 0), .inl (0, 0), .inr (2, 92), .inr (2, 93), .inr (2, 94), .inr (2, 95), .inr (2, 96)]), .inr (0, 10, .inl (0, 0), []), .inr (0, 3, .inl (0, 0), []), .inr (0, 12, .inl (0, 0), []), .inr (0, 10, .inl (0, 0), []), .inr (0, 36, .inl (0, 0), []), .inl (2, [.inr (2, 27), .inl (0, 0), .inl (0, 0), .inl (0, 0), .inl (0, 0), .inl (0, 0), .inr (2, 98), .inr (2, 99), .inr (2, 100), .inr (2, 101), .inr (2, 102)]), .inr (0, 10, .inl (0, 0), []), .inr (0, 3, .inl (0, 0), []), .inr (0, 12, .inl (0, 0), []), .inr (0, 10, .inl (0, 0), []), .inr (0, 36, .inl (0, 0), []), .inl (2, [.inr (2, 27), .inl (0, 0), .inl (0, 0), .inl (0, 0), .inl (0, 0), .inl (0, 0), .inr (2, 104), .inr (2, 105), .inr (2, 106), .inr (2, 107), .inr (2, 108)]), .inr (0, 10, .inl (0, 0), []), .inr (0, 3, .inl (0, 0), []), .inr (0, 12, .inl (0, 0), []), .inr (0, 10, .inl (0, 0), []), .inr (0, 36, .inl (0, 0), []), .inl (12, [.inl (0, 0), .inr (2, 110), .inl (0, 0), .inl (0, 0), .inl (0, 0), .inl (0, 0), .inr (2, 111), .inr (2, 112), .inr (2, 113), .inr (2, 114), .inr (2, 115), .inl (0, 0), .inl (0, 0), .inl (0, 0), .inl (0, 0), .inl (0, 0), .inl (0, 0), .inr (1, 0), .inl (0, 0), .inl (0, 0), .inr (2, 116), .inr (2, 117), .inr (2, 118), .inl (0, 0), .inl (0, 0), .inl (0, 0), .inl (0, 0), .inr (2, 119), .inl (0, 0), .inl (0, 0), .inl (0, 0), .inl (0, 0), .inr (2, 120), .inr (2, 121), .inr (2, 122), .inr (2, 123), .inl (0, 0), .inl (0, 0), .inl (0, 0), .inr (2, 124), .inl (0, 0), .inl (0, 0), .inl (0, 0), .inr (2, 125), .inl (0, 0), .inr (2, 126), .inl (0, 0), .inl (0, 0), .inl (0, 0), .inl (0, 0), .inl (0, 0), .inr (2, 127), .inr (2, 128), .inr (2, 129), .inr (2, 130)]), .inr (1, 940, .inl (0, 0), []), .inr (0, 296, .inl (0, 0), []), .inr (0, 91, .inl (0, 0), []), .inr (0, 135, .inl (0, 0), []), .inr (3, 40, .inr (1, 0), []), .inr (3, 23, .inr (1, 0), []), .inr (0, 12, .inl (0, 0), []), .inr (0, 192, .inl (0, 0), []), .inr (0, 24, .inl (0, 0), []), .inr (2, 4096, .inl (0, 0), []), .inr (0, 1024, .inl (0, 0), []), .inr (0, 1024, .inl (0, 0), []), .inr (0, 1024, .inl (0, 0), []), .inr (0, 11, .inl (0, 0), []), .inr (1, 56, .inl (0, 0), []), .inr (0, 4, .inl (0, 0), []), .inr (0, 45, .inl (0, 0), []), .inr (2, 45, .inl (0, 0), []), .inr (0, 592, .inl (0, 0), []), .inr (3, 40, .inr (1, 0), []), .inr (2, 2, .inl (0, 0), []), .inr (3, 1, .inr (1, 0), [])]
def rvAl0 : List rvV := [.inr (5, 0), .inr (2, 0), .inr (2, 109), .inr (2, 131), .inl (0, 0), .inr (9, 0), .inr (9, 0)]
theorem rv_made : rvRun rvTy rvNf rvTxt [] (rvX1 7) rvInf (rvFind2 tb_L) 23 2048 600002 7302232 84000 7 100 0 [.inr (5, 0), .inr (9, 0), .inr (9, 0), .inr (9, 0), .inr (9, 0), .inr (9, 0), .inr (9, 0)] [] [] 0 0 = some (23, rvAl0, [], rvAw0, 132, 19068) := rvOk_ok (by decide +kernel)
end
section
/-- a call of the law: it comes to the end of its case, the script and its place as they were -/
def rvGd (o : Option rvS) : Bool := match o with
  | some (pc, al, st, _, kc, ks) => Nat.beq pc 1476 && (decide (al[0]? = some (.inr (5, 0))) && (decide (al[4]? = some (.inl (0, 0))) && (decide (st = []) && (Nat.ble kc 600002 && Nat.ble ks 7302232))))
  | none => false
theorem rvGd_ok {o : Option rvS} (h : rvGd o = true) : ∃ al aw kc ks, o = some (1476, al, [], aw, kc, ks) ∧ al[0]? = some (.inr (5, 0)) ∧ al[4]? = some (.inl (0, 0)) ∧ kc ≤ 600002 ∧ ks ≤ 7302232 := by
  unfold rvGd at h
  split at h
  · rename_i pc al st aw kc ks
    obtain ⟨h1, h⟩ := rv_and h
    obtain ⟨h2, h⟩ := rv_and h
    obtain ⟨h3, h⟩ := rv_and h
    obtain ⟨h4, h⟩ := rv_and h
    obtain ⟨h5, h6⟩ := rv_and h
    have e1 := rv_beq h1
    have e4 := of_decide_eq_true h4
    subst e1; subst e4
    exact ⟨al, aw, kc, ks, rfl, of_decide_eq_true h2, of_decide_eq_true h3, rv_ble h5, rv_ble h6⟩
  · cases h
theorem oc_2_0 : rvGd (rvRun rvTy rvNf rvTxt [((-2147483648), 2147483647), ((-2147483648), 2147483647), ((-2147483648), 2147483647), ((-2147483648), 2147483647), ((-2147483648), 2147483647), ((-2147483648), 2147483647)] (rvX0 7) rvInf (rvFind2 tb_L) 1476 2048 600002 7302232 84000 7 100 334 rvAl0 [] rvAw0 132 19068) = true := by decide +kernel
theorem oc_42_0 : rvGd (rvRun rvTy rvNf rvTxt [((-2147483648), 2147483647), ((-2147483648), (-1)), ((-2147483648), 2147483647), ((-2147483648), 2147483647), ((-2147483648), 2147483647), ((-2147483648), 2147483647)] (rvX0 7) rvInf (rvFind2 tb_L) 1476 2048 600002 7302232 84000 7 100 1401 rvAl0 [] rvAw0 132 19068) = true := by decide +kernel
theorem oc_42_1 : rvGd (rvRun rvTy rvNf rvTxt [((-2147483648), 2147483647), (0, 0), ((-2147483648), 2147483647), ((-2147483648), 2147483647), ((-2147483648), 2147483647), ((-2147483648), 2147483647)] (rvX0 7) rvInf (rvFind2 tb_L) 1476 2048 600002 7302232 84000 7 100 1401 rvAl0 [] rvAw0 132 19068) = true := by decide +kernel
theorem oc_42_2 : rvGd (rvRun rvTy rvNf rvTxt [((-2147483648), 2147483647), (1, 1), ((-2147483648), 2147483647), ((-2147483648), 2147483647), ((-2147483648), 2147483647), ((-2147483648), 2147483647)] (rvX0 7) rvInf (rvFind2 tb_L) 1476 2048 600002 7302232 84000 7 100 1401 rvAl0 [] rvAw0 132 19068) = true := by decide +kernel
theorem oc_42_3 : rvGd (rvRun rvTy rvNf rvTxt [((-2147483648), 2147483647), (2, 2147483647), ((-2147483648), 2147483647), ((-2147483648), 2147483647), ((-2147483648), 2147483647), ((-2147483648), 2147483647)] (rvX0 7) rvInf (rvFind2 tb_L) 1476 2048 600002 7302232 84000 7 100 1401 rvAl0 [] rvAw0 132 19068) = true := by decide +kernel
theorem oc_0_0 : rvGd (rvRun rvTy rvNf rvTxt [((-2147483648), 2147483647), ((-2147483648), 2147483647), ((-2147483648), 2147483647), ((-2147483648), 2147483647), ((-2147483648), 2147483647), ((-2147483648), 2147483647)] (rvX0 7) rvInf (rvFind2 tb_L) 1476 2048 600002 7302232 84000 7 100 236 rvAl0 [] rvAw0 132 19068) = true := by decide +kernel
theorem oc_1_0 : rvGd (rvRun rvTy rvNf rvTxt [((-2147483648), 2147483647), ((-2147483648), (-1)), ((-2147483648), 2147483647), ((-2147483648), 2147483647), ((-2147483648), 2147483647), ((-2147483648), 2147483647)] (rvX0 7) rvInf (rvFind2 tb_L) 1476 2048 600002 7302232 84000 7 100 309 rvAl0 [] rvAw0 132 19068) = true := by decide +kernel
theorem oc_1_1 : rvGd (rvRun rvTy rvNf rvTxt [((-2147483648), 2147483647), (0, 0), ((-2147483648), 2147483647), ((-2147483648), 2147483647), ((-2147483648), 2147483647), ((-2147483648), 2147483647)] (rvX0 7) rvInf (rvFind2 tb_L) 1476 2048 600002 7302232 84000 7 100 309 rvAl0 [] rvAw0 132 19068) = true := by decide +kernel
theorem oc_1_2 : rvGd (rvRun rvTy rvNf rvTxt [((-2147483648), 2147483647), (1, 2147483647), ((-2147483648), 2147483647), ((-2147483648), 2147483647), ((-2147483648), 2147483647), ((-2147483648), 2147483647)] (rvX0 7) rvInf (rvFind2 tb_L) 1476 2048 600002 7302232 84000 7 100 309 rvAl0 [] rvAw0 132 19068) = true := by decide +kernel
theorem oc_3_0 : rvGd (rvRun rvTy rvNf rvTxt [((-2147483648), 2147483647), ((-2147483648), 2147483647), ((-2147483648), 2147483647), ((-2147483648), 2147483647), ((-2147483648), 2147483647), ((-2147483648), 2147483647)] (rvX0 7) rvInf (rvFind2 tb_L) 1476 2048 600002 7302232 84000 7 100 347 rvAl0 [] rvAw0 132 19068) = true := by decide +kernel
theorem oc_5_0 : rvGd (rvRun rvTy rvNf rvTxt [((-2147483648), 2147483647), ((-2147483648), (-1)), ((-2147483648), 2147483647), ((-2147483648), 2147483647), ((-2147483648), 2147483647), ((-2147483648), 2147483647)] (rvX0 7) rvInf (rvFind2 tb_L) 1476 2048 600002 7302232 84000 7 100 428 rvAl0 [] rvAw0 132 19068) = true := by decide +kernel
theorem oc_5_1 : rvGd (rvRun rvTy rvNf rvTxt [((-2147483648), 2147483647), (0, 2147483647), ((-2147483648), 2147483647), ((-2147483648), 2147483647), ((-2147483648), 2147483647), ((-2147483648), 2147483647)] (rvX0 7) rvInf (rvFind2 tb_L) 1476 2048 600002 7302232 84000 7 100 428 rvAl0 [] rvAw0 132 19068) = true := by decide +kernel
theorem oc_6_0 : rvGd (rvRun rvTy rvNf rvTxt [((-2147483648), 2147483647), ((-2147483648), (-1)), ((-2147483648), 2147483647), ((-2147483648), 2147483647), ((-2147483648), 2147483647), ((-2147483648), 2147483647)] (rvX0 7) rvInf (rvFind2 tb_L) 1476 2048 600002 7302232 84000 7 100 465 rvAl0 [] rvAw0 132 19068) = true := by decide +kernel
theorem oc_6_1 : rvGd (rvRun rvTy rvNf rvTxt [((-2147483648), 2147483647), (0, 0), ((-2147483648), 2147483647), ((-2147483648), 2147483647), ((-2147483648), 2147483647), ((-2147483648), 2147483647)] (rvX0 7) rvInf (rvFind2 tb_L) 1476 2048 600002 7302232 84000 7 100 465 rvAl0 [] rvAw0 132 19068) = true := by decide +kernel
theorem oc_6_2 : rvGd (rvRun rvTy rvNf rvTxt [((-2147483648), 2147483647), (1, 1), ((-2147483648), 2147483647), ((-2147483648), 2147483647), ((-2147483648), 2147483647), ((-2147483648), 2147483647)] (rvX0 7) rvInf (rvFind2 tb_L) 1476 2048 600002 7302232 84000 7 100 465 rvAl0 [] rvAw0 132 19068) = true := by decide +kernel
theorem oc_6_3 : rvGd (rvRun rvTy rvNf rvTxt [((-2147483648), 2147483647), (2, 2), ((-2147483648), 2147483647), ((-2147483648), 2147483647), ((-2147483648), 2147483647), ((-2147483648), 2147483647)] (rvX0 7) rvInf (rvFind2 tb_L) 1476 2048 600002 7302232 84000 7 100 465 rvAl0 [] rvAw0 132 19068) = true := by decide +kernel
theorem oc_6_4 : rvGd (rvRun rvTy rvNf rvTxt [((-2147483648), 2147483647), (3, 3), ((-2147483648), 2147483647), ((-2147483648), 2147483647), ((-2147483648), 2147483647), ((-2147483648), 2147483647)] (rvX0 7) rvInf (rvFind2 tb_L) 1476 2048 600002 7302232 84000 7 100 465 rvAl0 [] rvAw0 132 19068) = true := by decide +kernel
theorem oc_6_5 : rvGd (rvRun rvTy rvNf rvTxt [((-2147483648), 2147483647), (4, 4), ((-2147483648), 2147483647), ((-2147483648), 2147483647), ((-2147483648), 2147483647), ((-2147483648), 2147483647)] (rvX0 7) rvInf (rvFind2 tb_L) 1476 2048 600002 7302232 84000 7 100 465 rvAl0 [] rvAw0 132 19068) = true := by decide +kernel
theorem oc_6_6 : rvGd (rvRun rvTy rvNf rvTxt [((-2147483648), 2147483647), (5, 2147483647), ((-2147483648), 2147483647), ((-2147483648), 2147483647), ((-2147483648), 2147483647), ((-2147483648), 2147483647)] (rvX0 7) rvInf (rvFind2 tb_L) 1476 2048 600002 7302232 84000 7 100 465 rvAl0 [] rvAw0 132 19068) = true := by decide +kernel
theorem oc_7_0 : rvGd (rvRun rvTy rvNf rvTxt [((-2147483648), 2147483647), ((-2147483648), (-1)), ((-2147483648), (-1)), ((-2147483648), 2147483647), ((-2147483648), 2147483647), ((-2147483648), 2147483647)] (rvX0 7) rvInf (rvFind2 tb_L) 1476 2048 600002 7302232 84000 7 100 490 rvAl0 [] rvAw0 132 19068) = true := by decide +kernel
theorem oc_7_1 : rvGd (rvRun rvTy rvNf rvTxt [((-2147483648), 2147483647), ((-2147483648), (-1)), (0, 2147483647), ((-2147483648), 2147483647), ((-2147483648), 2147483647), ((-2147483648), 2147483647)] (rvX0 7) rvInf (rvFind2 tb_L) 1476 2048 600002 7302232 84000 7 100 490 rvAl0 [] rvAw0 132 19068) = true := by decide +kernel
theorem oc_7_2 : rvGd (rvRun rvTy rvNf rvTxt [((-2147483648), 2147483647), (0, 0), ((-2147483648), (-1)), ((-2147483648), 2147483647), ((-2147483648), 2147483647), ((-2147483648), 2147483647)] (rvX0 7) rvInf (rvFind2 tb_L) 1476 2048 600002 7302232 84000 7 100 490 rvAl0 [] rvAw0 132 19068) = true := by decide +kernel
theorem oc_7_3 : rvGd (rvRun rvTy rvNf rvTxt [((-2147483648), 2147483647), (0, 0), (0, 2147483647), ((-2147483648), 2147483647), ((-2147483648), 2147483647), ((-2147483648), 2147483647)] (rvX0 7) rvInf (rvFind2 tb_L) 1476 2048 600002 7302232 84000 7 100 490 rvAl0 [] rvAw0 132 19068) = true := by decide +kernel
theorem oc_7_4 : rvGd (rvRun rvTy rvNf rvTxt [((-2147483648), 2147483647), (1, 1), ((-2147483648), (-1)), ((-2147483648), 2147483647), ((-2147483648), 2147483647), ((-2147483648), 2147483647)] (rvX0 7) rvInf (rvFind2 tb_L) 1476 2048 600002 7302232 84000 7 100 490 rvAl0 [] rvAw0 132 19068) = true := by decide +kernel
theorem oc_7_5 : rvGd (rvRun rvTy rvNf rvTxt [((-2147483648), 2147483647), (1, 1), (0, 2147483647), ((-2147483648), 2147483647), ((-2147483648), 2147483647), ((-2147483648), 2147483647)] (rvX0 7) rvInf (rvFind2 tb_L) 1476 2048 600002 7302232 84000 7 100 490 rvAl0 [] rvAw0 132 19068) = true := by decide +kernel
theorem oc_7_6 : rvGd (rvRun rvTy rvNf rvTxt [((-2147483648), 2147483647), (2, 2), ((-2147483648), (-1)), ((-2147483648), 2147483647), ((-2147483648), 2147483647), ((-2147483648), 2147483647)] (rvX0 7) rvInf (rvFind2 tb_L) 1476 2048 600002 7302232 84000 7 100 490 rvAl0 [] rvAw0 132 19068) = true := by decide +kernel
theorem oc_7_7 : rvGd (rvRun rvTy rvNf rvTxt [((-2147483648), 2147483647), (2, 2), (0, 2147483647), ((-2147483648), 2147483647), ((-2147483648), 2147483647), ((-2147483648), 2147483647)] (rvX0 7) rvInf (rvFind2 tb_L) 1476 2048 600002 7302232 84000 7 100 490 rvAl0 [] rvAw0 132 19068) = true := by decide +kernel
theorem oc_7_8 : rvGd (rvRun rvTy rvNf rvTxt [((-2147483648), 2147483647), (3, 3), ((-2147483648), (-1)), ((-2147483648), 2147483647), ((-2147483648), 2147483647), ((-2147483648), 2147483647)] (rvX0 7) rvInf (rvFind2 tb_L) 1476 2048 600002 7302232 84000 7 100 490 rvAl0 [] rvAw0 132 19068) = true := by decide +kernel
theorem oc_7_9 : rvGd (rvRun rvTy rvNf rvTxt [((-2147483648), 2147483647), (3, 3), (0, 2147483647), ((-2147483648), 2147483647), ((-2147483648), 2147483647), ((-2147483648), 2147483647)] (rvX0 7) rvInf (rvFind2 tb_L) 1476 2048 600002 7302232 84000 7 100 490 rvAl0 [] rvAw0 132 19068) = true := by decide +kernel
theorem oc_7_10 : rvGd (rvRun rvTy rvNf rvTxt [((-2147483648), 2147483647), (4, 4), ((-2147483648), (-1)), ((-2147483648), 2147483647), ((-2147483648), 2147483647), ((-2147483648), 2147483647)] (rvX0 7) rvInf (rvFind2 tb_L) 1476 2048 600002 7302232 84000 7 100 490 rvAl0 [] rvAw0 132 19068) = true := by decide +kernel
theorem oc_7_11 : rvGd (rvRun rvTy rvNf rvTxt [((-2147483648), 2147483647), (4, 4), (0, 2147483647), ((-2147483648), 2147483647), ((-2147483648), 2147483647), ((-2147483648), 2147483647)] (rvX0 7) rvInf (rvFind2 tb_L) 1476 2048 600002 7302232 84000 7 100 490 rvAl0 [] rvAw0 132 19068) = true := by decide +kernel
theorem oc_7_12 : rvGd (rvRun rvTy rvNf rvTxt [((-2147483648), 2147483647), (5, 2147483647), ((-2147483648), (-1)), ((-2147483648), 2147483647), ((-2147483648), 2147483647), ((-2147483648), 2147483647)] (rvX0 7) rvInf (rvFind2 tb_L) 1476 2048 600002 7302232 84000 7 100 490 rvAl0 [] rvAw0 132 19068) = true := by decide +kernel
theorem oc_7_13 : rvGd (rvRun rvTy rvNf rvTxt [((-2147483648), 2147483647), (5, 2147483647), (0, 2147483647), ((-2147483648), 2147483647), ((-2147483648), 2147483647), ((-2147483648), 2147483647)] (rvX0 7) rvInf (rvFind2 tb_L) 1476 2048 600002 7302232 84000 7 100 490 rvAl0 [] rvAw0 132 19068) = true := by decide +kernel
theorem oc_8_0 : rvGd (rvRun rvTy rvNf rvTxt [((-2147483648), 2147483647), ((-2147483648), (-1)), ((-2147483648), (-1)), ((-2147483648), 2147483647), ((-2147483648), 2147483647), ((-2147483648), 2147483647)] (rvX0 7) rvInf (rvFind2 tb_L) 1476 2048 600002 7302232 84000 7 100 527 rvAl0 [] rvAw0 132 19068) = true := by decide +kernel
theorem oc_8_1 : rvGd (rvRun rvTy rvNf rvTxt [((-2147483648), 2147483647), ((-2147483648), (-1)), (0, 2147483647), ((-2147483648), 2147483647), ((-2147483648), 2147483647), ((-2147483648), 2147483647)] (rvX0 7) rvInf (rvFind2 tb_L) 1476 2048 600002 7302232 84000 7 100 527 rvAl0 [] rvAw0 132 19068) = true := by decide +kernel
theorem oc_8_2 : rvGd (rvRun rvTy rvNf rvTxt [((-2147483648), 2147483647), (0, 0), ((-2147483648), (-1)), ((-2147483648), 2147483647), ((-2147483648), 2147483647), ((-2147483648), 2147483647)] (rvX0 7) rvInf (rvFind2 tb_L) 1476 2048 600002 7302232 84000 7 100 527 rvAl0 [] rvAw0 132 19068) = true := by decide +kernel
theorem oc_8_3 : rvGd (rvRun rvTy rvNf rvTxt [((-2147483648), 2147483647), (0, 0), (0, 2147483647), ((-2147483648), 2147483647), ((-2147483648), 2147483647), ((-2147483648), 2147483647)] (rvX0 7) rvInf (rvFind2 tb_L) 1476 2048 600002 7302232 84000 7 100 527 rvAl0 [] rvAw0 132 19068) = true := by decide +kernel
theorem oc_8_4 : rvGd (rvRun rvTy rvNf rvTxt [((-2147483648), 2147483647), (1, 1), ((-2147483648), (-1)), ((-2147483648), 2147483647), ((-2147483648), 2147483647), ((-2147483648), 2147483647)] (rvX0 7) rvInf (rvFind2 tb_L) 1476 2048 600002 7302232 84000 7 100 527 rvAl0 [] rvAw0 132 19068) = true := by decide +kernel
theorem oc_8_5 : rvGd (rvRun rvTy rvNf rvTxt [((-2147483648), 2147483647), (1, 1), (0, 2147483647), ((-2147483648), 2147483647), ((-2147483648), 2147483647), ((-2147483648), 2147483647)] (rvX0 7) rvInf (rvFind2 tb_L) 1476 2048 600002 7302232 84000 7 100 527 rvAl0 [] rvAw0 132 19068) = true := by decide +kernel
theorem oc_8_6 : rvGd (rvRun rvTy rvNf rvTxt [((-2147483648), 2147483647), (2, 2), ((-2147483648), (-1)), ((-2147483648), 2147483647), ((-2147483648), 2147483647), ((-2147483648), 2147483647)] (rvX0 7) rvInf (rvFind2 tb_L) 1476 2048 600002 7302232 84000 7 100 527 rvAl0 [] rvAw0 132 19068) = true := by decide +kernel
theorem oc_8_7 : rvGd (rvRun rvTy rvNf rvTxt [((-2147483648), 2147483647), (2, 2), (0, 2147483647), ((-2147483648), 2147483647), ((-2147483648), 2147483647), ((-2147483648), 2147483647)] (rvX0 7) rvInf (rvFind2 tb_L) 1476 2048 600002 7302232 84000 7 100 527 rvAl0 [] rvAw0 132 19068) = true := by decide +kernel
theorem oc_8_8 : rvGd (rvRun rvTy rvNf rvTxt [((-2147483648), 2147483647), (3, 3), ((-2147483648), (-1)), ((-2147483648), 2147483647), ((-2147483648), 2147483647), ((-2147483648), 2147483647)] (rvX0 7) rvInf (rvFind2 tb_L) 1476 2048 600002 7302232 84000 7 100 527 rvAl0 [] rvAw0 132 19068) = true := by decide +kernel
theorem oc_8_9 : rvGd (rvRun rvTy rvNf rvTxt [((-2147483648), 2147483647), (3, 3), (0, 2147483647), ((-2147483648), 2147483647), ((-2147483648), 2147483647), ((-2147483648), 2147483647)] (rvX0 7) rvInf (rvFind2 tb_L) 1476 2048 600002 7302232 84000 7 100 527 rvAl0 [] rvAw0 132 19068) = true := by decide +kernel
theorem oc_8_10 : rvGd (rvRun rvTy rvNf rvTxt [((-2147483648), 2147483647), (4, 4), ((-2147483648), (-1)), ((-2147483648), 2147483647), ((-2147483648), 2147483647), ((-2147483648), 2147483647)] (rvX0 7) rvInf (rvFind2 tb_L) 1476 2048 600002 7302232 84000 7 100 527 rvAl0 [] rvAw0 132 19068) = true := by decide +kernel
theorem oc_8_11 : rvGd (rvRun rvTy rvNf rvTxt [((-2147483648), 2147483647), (4, 4), (0, 2147483647), ((-2147483648), 2147483647), ((-2147483648), 2147483647), ((-2147483648), 2147483647)] (rvX0 7) rvInf (rvFind2 tb_L) 1476 2048 600002 7302232 84000 7 100 527 rvAl0 [] rvAw0 132 19068) = true := by decide +kernel
theorem oc_8_12 : rvGd (rvRun rvTy rvNf rvTxt [((-2147483648), 2147483647), (5, 2147483647), ((-2147483648), (-1)), ((-2147483648), 2147483647), ((-2147483648), 2147483647), ((-2147483648), 2147483647)] (rvX0 7) rvInf (rvFind2 tb_L) 1476 2048 600002 7302232 84000 7 100 527 rvAl0 [] rvAw0 132 19068) = true := by decide +kernel
theorem oc_8_13 : rvGd (rvRun rvTy rvNf rvTxt [((-2147483648), 2147483647), (5, 2147483647), (0, 2147483647), ((-2147483648), 2147483647), ((-2147483648), 2147483647), ((-2147483648), 2147483647)] (rvX0 7) rvInf (rvFind2 tb_L) 1476 2048 600002 7302232 84000 7 100 527 rvAl0 [] rvAw0 132 19068) = true := by decide +kernel
theorem oc_9_0 : rvGd (rvRun rvTy rvNf rvTxt [((-2147483648), 2147483647), ((-2147483648), (-1)), ((-2147483648), (-1)), ((-2147483648), 2147483647), ((-2147483648), 2147483647), ((-2147483648), 2147483647)] (rvX0 7) rvInf (rvFind2 tb_L) 1476 2048 600002 7302232 84000 7 100 564 rvAl0 [] rvAw0 132 19068) = true := by decide +kernel
theorem oc_9_1 : rvGd (rvRun rvTy rvNf rvTxt [((-2147483648), 2147483647), ((-2147483648), (-1)), (0, 2147483647), ((-2147483648), 2147483647), ((-2147483648), 2147483647), ((-2147483648), 2147483647)] (rvX0 7) rvInf (rvFind2 tb_L) 1476 2048 600002 7302232 84000 7 100 564 rvAl0 [] rvAw0 132 19068) = true := by decide +kernel
theorem oc_9_2 : rvGd (rvRun rvTy rvNf rvTxt [((-2147483648), 2147483647), (0, 0), ((-2147483648), (-1)), ((-2147483648), 2147483647), ((-2147483648), 2147483647), ((-2147483648), 2147483647)] (rvX0 7) rvInf (rvFind2 tb_L) 1476 2048 600002 7302232 84000 7 100 564 rvAl0 [] rvAw0 132 19068) = true := by decide +kernel
theorem oc_9_3 : rvGd (rvRun rvTy rvNf rvTxt [((-2147483648), 2147483647), (0, 0), (0, 2147483647), ((-2147483648), 2147483647), ((-2147483648), 2147483647), ((-2147483648), 2147483647)] (rvX0 7) rvInf (rvFind2 tb_L) 1476 2048 600002 7302232 84000 7 100 564 rvAl0 [] rvAw0 132 19068) = true := by decide +kernel
theorem oc_9_4 : rvGd (rvRun rvTy rvNf rvTxt [((-2147483648), 2147483647), (1, 1), ((-2147483648), (-1)), ((-2147483648), 2147483647), ((-2147483648), 2147483647), ((-2147483648), 2147483647)] (rvX0 7) rvInf (rvFind2 tb_L) 1476 2048 600002 7302232 84000 7 100 564 rvAl0 [] rvAw0 132 19068) = true := by decide +kernel
theorem oc_9_5 : rvGd (rvRun rvTy rvNf rvTxt [((-2147483648), 2147483647), (1, 1), (0, 2147483647), ((-2147483648), 2147483647), ((-2147483648), 2147483647), ((-2147483648), 2147483647)] (rvX0 7) rvInf (rvFind2 tb_L) 1476 2048 600002 7302232 84000 7 100 564 rvAl0 [] rvAw0 132 19068) = true := by decide +kernel
theorem oc_9_6 : rvGd (rvRun rvTy rvNf rvTxt [((-2147483648), 2147483647), (2, 2), ((-2147483648), (-1)), ((-2147483648), 2147483647), ((-2147483648), 2147483647), ((-2147483648), 2147483647)] (rvX0 7) rvInf (rvFind2 tb_L) 1476 2048 600002 7302232 84000 7 100 564 rvAl0 [] rvAw0 132 19068) = true := by decide +kernel
theorem oc_9_7 : rvGd (rvRun rvTy rvNf rvTxt [((-2147483648), 2147483647), (2, 2), (0, 2147483647), ((-2147483648), 2147483647), ((-2147483648), 2147483647), ((-2147483648), 2147483647)] (rvX0 7) rvInf (rvFind2 tb_L) 1476 2048 600002 7302232 84000 7 100 564 rvAl0 [] rvAw0 132 19068) = true := by decide +kernel
theorem oc_9_8 : rvGd (rvRun rvTy rvNf rvTxt [((-2147483648), 2147483647), (3, 3), ((-2147483648), (-1)), ((-2147483648), 2147483647), ((-2147483648), 2147483647), ((-2147483648), 2147483647)] (rvX0 7) rvInf (rvFind2 tb_L) 1476 2048 600002 7302232 84000 7 100 564 rvAl0 [] rvAw0 132 19068) = true := by decide +kernel
theorem oc_9_9 : rvGd (rvRun rvTy rvNf rvTxt [((-2147483648), 2147483647), (3, 3), (0, 2147483647), ((-2147483648), 2147483647), ((-2147483648), 2147483647), ((-2147483648), 2147483647)] (rvX0 7) rvInf (rvFind2 tb_L) 1476 2048 600002 7302232 84000 7 100 564 rvAl0 [] rvAw0 132 19068) = true := by decide +kernel
theorem oc_9_10 : rvGd (rvRun rvTy rvNf rvTxt [((-2147483648), 2147483647), (4, 4), ((-2147483648), (-1)), ((-2147483648), 2147483647), ((-2147483648), 2147483647), ((-2147483648), 2147483647)] (rvX0 7) rvInf (rvFind2 tb_L) 1476 2048 600002 7302232 84000 7 100 564 rvAl0 [] rvAw0 132 19068) = true := by decide +kernel
theorem oc_9_11 : rvGd (rvRun rvTy rvNf rvTxt [((-2147483648), 2147483647), (4, 4), (0, 2147483647), ((-2147483648), 2147483647), ((-2147483648), 2147483647), ((-2147483648), 2147483647)] (rvX0 7) rvInf (rvFind2 tb_L) 1476 2048 600002 7302232 84000 7 100 564 rvAl0 [] rvAw0 132 19068) = true := by decide +kernel
theorem oc_9_12 : rvGd (rvRun rvTy rvNf rvTxt [((-2147483648), 2147483647), (5, 2147483647), ((-2147483648), (-1)), ((-2147483648), 2147483647), ((-2147483648), 2147483647), ((-2147483648), 2147483647)] (rvX0 7) rvInf (rvFind2 tb_L) 1476 2048 600002 7302232 84000 7 100 564 rvAl0 [] rvAw0 132 19068) = true := by decide +kernel
theorem oc_9_13 : rvGd (rvRun rvTy rvNf rvTxt [((-2147483648), 2147483647), (5, 2147483647), (0, 2147483647), ((-2147483648), 2147483647), ((-2147483648), 2147483647), ((-2147483648), 2147483647)] (rvX0 7) rvInf (rvFind2 tb_L) 1476 2048 600002 7302232 84000 7 100 564 rvAl0 [] rvAw0 132 19068) = true := by decide +kernel
theorem oc_10_0 : rvGd (rvRun rvTy rvNf rvTxt [((-2147483648), 2147483647), ((-2147483648), (-1)), ((-2147483648), 2147483647), ((-2147483648), 2147483647), ((-2147483648), 2147483647), ((-2147483648), 2147483647)] (rvX0 7) rvInf (rvFind2 tb_L) 1476 2048 600002 7302232 84000 7 100 601 rvAl0 [] rvAw0 132 19068) = true := by decide +kernel
theorem oc_10_1 : rvGd (rvRun rvTy rvNf rvTxt [((-2147483648), 2147483647), (0, 2147483647), ((-2147483648), 2147483647), ((-2147483648), 2147483647), ((-2147483648), 2147483647), ((-2147483648), 2147483647)] (rvX0 7) rvInf (rvFind2 tb_L) 1476 2048 600002 7302232 84000 7 100 601 rvAl0 [] rvAw0 132 19068) = true := by decide +kernel
theorem oc_11_0 : rvGd (rvRun rvTy rvNf rvTxt [((-2147483648), 2147483647), ((-2147483648), (-1)), ((-2147483648), 2147483647), ((-2147483648), 2147483647), ((-2147483648), 2147483647), ((-2147483648), 2147483647)] (rvX0 7) rvInf (rvFind2 tb_L) 1476 2048 600002 7302232 84000 7 100 626 rvAl0 [] rvAw0 132 19068) = true := by decide +kernel
theorem oc_11_1 : rvGd (rvRun rvTy rvNf rvTxt [((-2147483648), 2147483647), (0, 0), ((-2147483648), 2147483647), ((-2147483648), 2147483647), ((-2147483648), 2147483647), ((-2147483648), 2147483647)] (rvX0 7) rvInf (rvFind2 tb_L) 1476 2048 600002 7302232 84000 7 100 626 rvAl0 [] rvAw0 132 19068) = true := by decide +kernel
theorem oc_11_2 : rvGd (rvRun rvTy rvNf rvTxt [((-2147483648), 2147483647), (1, 1), ((-2147483648), 2147483647), ((-2147483648), 2147483647), ((-2147483648), 2147483647), ((-2147483648), 2147483647)] (rvX0 7) rvInf (rvFind2 tb_L) 1476 2048 600002 7302232 84000 7 100 626 rvAl0 [] rvAw0 132 19068) = true := by decide +kernel
theorem oc_11_3 : rvGd (rvRun rvTy rvNf rvTxt [((-2147483648), 2147483647), (2, 2), ((-2147483648), 2147483647), ((-2147483648), 2147483647), ((-2147483648), 2147483647), ((-2147483648), 2147483647)] (rvX0 7) rvInf (rvFind2 tb_L) 1476 2048 600002 7302232 84000 7 100 626 rvAl0 [] rvAw0 132 19068) = true := by decide +kernel
theorem oc_11_4 : rvGd (rvRun rvTy rvNf rvTxt [((-2147483648), 2147483647), (3, 3), ((-2147483648), 2147483647), ((-2147483648), 2147483647), ((-2147483648), 2147483647), ((-2147483648), 2147483647)] (rvX0 7) rvInf (rvFind2 tb_L) 1476 2048 600002 7302232 84000 7 100 626 rvAl0 [] rvAw0 132 19068) = true := by decide +kernel
theorem oc_11_5 : rvGd (rvRun rvTy rvNf rvTxt [((-2147483648), 2147483647), (4, 4), ((-2147483648), 2147483647), ((-2147483648), 2147483647), ((-2147483648), 2147483647), ((-2147483648), 2147483647)] (rvX0 7) rvInf (rvFind2 tb_L) 1476 2048 600002 7302232 84000 7 100 626 rvAl0 [] rvAw0 132 19068) = true := by decide +kernel
theorem oc_11_6 : rvGd (rvRun rvTy rvNf rvTxt [((-2147483648), 2147483647), (5, 5), ((-2147483648), 2147483647), ((-2147483648), 2147483647), ((-2147483648), 2147483647), ((-2147483648), 2147483647)] (rvX0 7) rvInf (rvFind2 tb_L) 1476 2048 600002 7302232 84000 7 100 626 rvAl0 [] rvAw0 132 19068) = true := by decide +kernel
theorem oc_11_7 : rvGd (rvRun rvTy rvNf rvTxt [((-2147483648), 2147483647), (6, 2147483647), ((-2147483648), 2147483647), ((-2147483648), 2147483647), ((-2147483648), 2147483647), ((-2147483648), 2147483647)] (rvX0 7) rvInf (rvFind2 tb_L) 1476 2048 600002 7302232 84000 7 100 626 rvAl0 [] rvAw0 132 19068) = true := by decide +kernel
theorem oc_12_0 : rvGd (rvRun rvTy rvNf rvTxt [((-2147483648), 2147483647), ((-2147483648), (-1)), ((-2147483648), 2147483647), ((-2147483648), 2147483647), ((-2147483648), 2147483647), ((-2147483648), 2147483647)] (rvX0 7) rvInf (rvFind2 tb_L) 1476 2048 600002 7302232 84000 7 100 651 rvAl0 [] rvAw0 132 19068) = true := by decide +kernel
theorem oc_12_1 : rvGd (rvRun rvTy rvNf rvTxt [((-2147483648), 2147483647), (0, 2147483647), ((-2147483648), 2147483647), ((-2147483648), 2147483647), ((-2147483648), 2147483647), ((-2147483648), 2147483647)] (rvX0 7) rvInf (rvFind2 tb_L) 1476 2048 600002 7302232 84000 7 100 651 rvAl0 [] rvAw0 132 19068) = true := by decide +kernel
theorem oc_13_0 : rvGd (rvRun rvTy rvNf rvTxt [((-2147483648), 2147483647), ((-2147483648), (-1)), ((-2147483648), 2147483647), ((-2147483648), 2147483647), ((-2147483648), 2147483647), ((-2147483648), 2147483647)] (rvX0 7) rvInf (rvFind2 tb_L) 1476 2048 600002 7302232 84000 7 100 688 rvAl0 [] rvAw0 132 19068) = true := by decide +kernel
theorem oc_13_1 : rvGd (rvRun rvTy rvNf rvTxt [((-2147483648), 2147483647), (0, 2147483647), ((-2147483648), 2147483647), ((-2147483648), 2147483647), ((-2147483648), 2147483647), ((-2147483648), 2147483647)] (rvX0 7) rvInf (rvFind2 tb_L) 1476 2048 600002 7302232 84000 7 100 688 rvAl0 [] rvAw0 132 19068) = true := by decide +kernel
theorem oc_14_0 : rvGd (rvRun rvTy rvNf rvTxt [((-2147483648), 2147483647), ((-2147483648), (-1)), ((-2147483648), 2147483647), ((-2147483648), 2147483647), ((-2147483648), 2147483647), ((-2147483648), 2147483647)] (rvX0 7) rvInf (rvFind2 tb_L) 1476 2048 600002 7302232 84000 7 100 725 rvAl0 [] rvAw0 132 19068) = true := by decide +kernel
theorem oc_14_1 : rvGd (rvRun rvTy rvNf rvTxt [((-2147483648), 2147483647), (0, 2147483647), ((-2147483648), 2147483647), ((-2147483648), 2147483647), ((-2147483648), 2147483647), ((-2147483648), 2147483647)] (rvX0 7) rvInf (rvFind2 tb_L) 1476 2048 600002 7302232 84000 7 100 725 rvAl0 [] rvAw0 132 19068) = true := by decide +kernel
theorem oc_15_0 : rvGd (rvRun rvTy rvNf rvTxt [((-2147483648), 2147483647), ((-2147483648), (-1)), ((-2147483648), 2147483647), ((-2147483648), 2147483647), ((-2147483648), 2147483647), ((-2147483648), 2147483647)] (rvX0 7) rvInf (rvFind2 tb_L) 1476 2048 600002 7302232 84000 7 100 762 rvAl0 [] rvAw0 132 19068) = true := by decide +kernel
theorem oc_15_1 : rvGd (rvRun rvTy rvNf rvTxt [((-2147483648), 2147483647), (0, 2147483647), ((-2147483648), 2147483647), ((-2147483648), 2147483647), ((-2147483648), 2147483647), ((-2147483648), 2147483647)] (rvX0 7) rvInf (rvFind2 tb_L) 1476 2048 600002 7302232 84000 7 100 762 rvAl0 [] rvAw0 132 19068) = true := by decide +kernel
theorem oc_16_0 : rvGd (rvRun rvTy rvNf rvTxt [((-2147483648), 2147483647), ((-2147483648), (-1)), ((-2147483648), 2147483647), ((-2147483648), 2147483647), ((-2147483648), 2147483647), ((-2147483648), 2147483647)] (rvX0 7) rvInf (rvFind2 tb_L) 1476 2048 600002 7302232 84000 7 100 787 rvAl0 [] rvAw0 132 19068) = true := by decide +kernel
theorem oc_16_1 : rvGd (rvRun rvTy rvNf rvTxt [((-2147483648), 2147483647), (0, 2147483647), ((-2147483648), 2147483647), ((-2147483648), 2147483647), ((-2147483648), 2147483647), ((-2147483648), 2147483647)] (rvX0 7) rvInf (rvFind2 tb_L) 1476 2048 600002 7302232 84000 7 100 787 rvAl0 [] rvAw0 132 19068) = true := by decide +kernel
theorem oc_17_0 : rvGd (rvRun rvTy rvNf rvTxt [((-2147483648), 2147483647), ((-2147483648), 0), ((-2147483648), 2147483647), ((-2147483648), 2147483647), ((-2147483648), 2147483647), ((-2147483648), 2147483647)] (rvX0 7) rvInf (rvFind2 tb_L) 1476 2048 600002 7302232 84000 7 100 812 rvAl0 [] rvAw0 132 19068) = true := by decide +kernel
theorem oc_17_2 : rvGd (rvRun rvTy rvNf rvTxt [((-2147483648), 2147483647), (61, 2147483647), ((-2147483648), 2147483647), ((-2147483648), 2147483647), ((-2147483648), 2147483647), ((-2147483648), 2147483647)] (rvX0 7) rvInf (rvFind2 tb_L) 1476 2048 600002 7302232 84000 7 100 812 rvAl0 [] rvAw0 132 19068) = true := by decide +kernel
theorem oc_18_0 : rvGd (rvRun rvTy rvNf rvTxt [((-2147483648), 2147483647), ((-2147483648), 2147483647), ((-2147483648), 2147483647), ((-2147483648), 2147483647), ((-2147483648), 2147483647), ((-2147483648), 2147483647)] (rvX0 7) rvInf (rvFind2 tb_L) 1476 2048 600002 7302232 84000 7 100 837 rvAl0 [] rvAw0 132 19068) = true := by decide +kernel
theorem oc_19_0 : rvGd (rvRun rvTy rvNf rvTxt [((-2147483648), 2147483647), ((-2147483648), (-1)), ((-2147483648), 2147483647), ((-2147483648), 2147483647), ((-2147483648), 2147483647), ((-2147483648), 2147483647)] (rvX0 7) rvInf (rvFind2 tb_L) 1476 2048 600002 7302232 84000 7 100 850 rvAl0 [] rvAw0 132 19068) = true := by decide +kernel
theorem oc_19_1 : rvGd (rvRun rvTy rvNf rvTxt [((-2147483648), 2147483647), (0, 2147483647), ((-2147483648), 2147483647), ((-2147483648), 2147483647), ((-2147483648), 2147483647), ((-2147483648), 2147483647)] (rvX0 7) rvInf (rvFind2 tb_L) 1476 2048 600002 7302232 84000 7 100 850 rvAl0 [] rvAw0 132 19068) = true := by decide +kernel
theorem oc_20_0 : rvGd (rvRun rvTy rvNf rvTxt [((-2147483648), 2147483647), ((-2147483648), 2147483647), ((-2147483648), 2147483647), ((-2147483648), 2147483647), ((-2147483648), 2147483647), ((-2147483648), 2147483647)] (rvX0 7) rvInf (rvFind2 tb_L) 1476 2048 600002 7302232 84000 7 100 875 rvAl0 [] rvAw0 132 19068) = true := by decide +kernel
theorem oc_21_0 : rvGd (rvRun rvTy rvNf rvTxt [((-2147483648), 2147483647), ((-2147483648), 2147483647), ((-2147483648), 2147483647), ((-2147483648), 2147483647), ((-2147483648), 2147483647), ((-2147483648), 2147483647)] (rvX0 7) rvInf (rvFind2 tb_L) 1476 2048 600002 7302232 84000 7 100 888 rvAl0 [] rvAw0 132 19068) = true := by decide +kernel
theorem oc_22_0 : rvGd (rvRun rvTy rvNf rvTxt [((-2147483648), 2147483647), ((-2147483648), (-1)), ((-2147483648), 2147483647), ((-2147483648), 2147483647), ((-2147483648), 2147483647), ((-2147483648), 2147483647)] (rvX0 7) rvInf (rvFind2 tb_L) 1476 2048 600002 7302232 84000 7 100 901 rvAl0 [] rvAw0 132 19068) = true := by decide +kernel
theorem oc_22_1 : rvGd (rvRun rvTy rvNf rvTxt [((-2147483648), 2147483647), (0, 2147483647), ((-2147483648), 2147483647), ((-2147483648), 2147483647), ((-2147483648), 2147483647), ((-2147483648), 2147483647)] (rvX0 7) rvInf (rvFind2 tb_L) 1476 2048 600002 7302232 84000 7 100 901 rvAl0 [] rvAw0 132 19068) = true := by decide +kernel
theorem oc_23_0 : rvGd (rvRun rvTy rvNf rvTxt [((-2147483648), 2147483647), ((-2147483648), 2147483647), ((-2147483648), 2147483647), ((-2147483648), 2147483647), ((-2147483648), 2147483647), ((-2147483648), 2147483647)] (rvX0 7) rvInf (rvFind2 tb_L) 1476 2048 600002 7302232 84000 7 100 926 rvAl0 [] rvAw0 132 19068) = true := by decide +kernel
theorem oc_24_0 : rvGd (rvRun rvTy rvNf rvTxt [((-2147483648), 2147483647), ((-2147483648), (-1)), ((-2147483648), 2147483647), ((-2147483648), 2147483647), ((-2147483648), 2147483647), ((-2147483648), 2147483647)] (rvX0 7) rvInf (rvFind2 tb_L) 1476 2048 600002 7302232 84000 7 100 939 rvAl0 [] rvAw0 132 19068) = true := by decide +kernel
theorem oc_24_1 : rvGd (rvRun rvTy rvNf rvTxt [((-2147483648), 2147483647), (0, 2147483647), ((-2147483648), 2147483647), ((-2147483648), 2147483647), ((-2147483648), 2147483647), ((-2147483648), 2147483647)] (rvX0 7) rvInf (rvFind2 tb_L) 1476 2048 600002 7302232 84000 7 100 939 rvAl0 [] rvAw0 132 19068) = true := by decide +kernel
theorem oc_25_0 : rvGd (rvRun rvTy rvNf rvTxt [((-2147483648), 2147483647), ((-2147483648), 2147483647), ((-2147483648), 2147483647), ((-2147483648), 2147483647), ((-2147483648), 2147483647), ((-2147483648), 2147483647)] (rvX0 7) rvInf (rvFind2 tb_L) 1476 2048 600002 7302232 84000 7 100 964 rvAl0 [] rvAw0 132 19068) = true := by decide +kernel
theorem oc_26_0 : rvGd (rvRun rvTy rvNf rvTxt [((-2147483648), 2147483647), ((-2147483648), (-1)), ((-2147483648), 2147483647), ((-2147483648), 2147483647), ((-2147483648), 2147483647), ((-2147483648), 2147483647)] (rvX0 7) rvInf (rvFind2 tb_L) 1476 2048 600002 7302232 84000 7 100 977 rvAl0 [] rvAw0 132 19068) = true := by decide +kernel
theorem oc_26_1 : rvGd (rvRun rvTy rvNf rvTxt [((-2147483648), 2147483647), (0, 2147483647), ((-2147483648), 2147483647), ((-2147483648), 2147483647), ((-2147483648), 2147483647), ((-2147483648), 2147483647)] (rvX0 7) rvInf (rvFind2 tb_L) 1476 2048 600002 7302232 84000 7 100 977 rvAl0 [] rvAw0 132 19068) = true := by decide +kernel
theorem oc_27_0 : rvGd (rvRun rvTy rvNf rvTxt [((-2147483648), 2147483647), ((-2147483648), (-1)), ((-2147483648), 2147483647), ((-2147483648), 2147483647), ((-2147483648), 2147483647), ((-2147483648), 2147483647)] (rvX0 7) rvInf (rvFind2 tb_L) 1476 2048 600002 7302232 84000 7 100 1002 rvAl0 [] rvAw0 132 19068) = true := by decide +kernel
theorem oc_27_1 : rvGd (rvRun rvTy rvNf rvTxt [((-2147483648), 2147483647), (0, 2147483647), ((-2147483648), 2147483647), ((-2147483648), 2147483647), ((-2147483648), 2147483647), ((-2147483648), 2147483647)] (rvX0 7) rvInf (rvFind2 tb_L) 1476 2048 600002 7302232 84000 7 100 1002 rvAl0 [] rvAw0 132 19068) = true := by decide +kernel
theorem oc_28_0 : rvGd (rvRun rvTy rvNf rvTxt [((-2147483648), 2147483647), ((-2147483648), (-1)), ((-2147483648), 2147483647), ((-2147483648), 2147483647), ((-2147483648), 2147483647), ((-2147483648), 2147483647)] (rvX0 7) rvInf (rvFind2 tb_L) 1476 2048 600002 7302232 84000 7 100 1039 rvAl0 [] rvAw0 132 19068) = true := by decide +kernel
theorem oc_28_1 : rvGd (rvRun rvTy rvNf rvTxt [((-2147483648), 2147483647), (0, 2147483647), ((-2147483648), 2147483647), ((-2147483648), 2147483647), ((-2147483648), 2147483647), ((-2147483648), 2147483647)] (rvX0 7) rvInf (rvFind2 tb_L) 1476 2048 600002 7302232 84000 7 100 1039 rvAl0 [] rvAw0 132 19068) = true := by decide +kernel
theorem oc_29_0 : rvGd (rvRun rvTy rvNf rvTxt [((-2147483648), 2147483647), ((-2147483648), 2147483647), ((-2147483648), 2147483647), ((-2147483648), 2147483647), ((-2147483648), 2147483647), ((-2147483648), 2147483647)] (rvX0 7) rvInf (rvFind2 tb_L) 1476 2048 600002 7302232 84000 7 100 1088 rvAl0 [] rvAw0 132 19068) = true := by decide +kernel
theorem oc_30_0 : rvGd (rvRun rvTy rvNf rvTxt [((-2147483648), 2147483647), ((-2147483648), 2147483647), ((-2147483648), 2147483647), ((-2147483648), 2147483647), ((-2147483648), 2147483647), ((-2147483648), 2147483647)] (rvX0 7) rvInf (rvFind2 tb_L) 1476 2048 600002 7302232 84000 7 100 1101 rvAl0 [] rvAw0 132 19068) = true := by decide +kernel
theorem oc_31_0 : rvGd (rvRun rvTy rvNf rvTxt [((-2147483648), 2147483647), ((-2147483648), 2147483647), ((-2147483648), 2147483647), ((-2147483648), 2147483647), ((-2147483648), 2147483647), ((-2147483648), 2147483647)] (rvX0 7) rvInf (rvFind2 tb_L) 1476 2048 600002 7302232 84000 7 100 1114 rvAl0 [] rvAw0 132 19068) = true := by decide +kernel
theorem oc_32_0 : rvGd (rvRun rvTy rvNf rvTxt [((-2147483648), 2147483647), ((-2147483648), (-1)), ((-2147483648), 2147483647), ((-2147483648), 2147483647), ((-2147483648), 2147483647), ((-2147483648), 2147483647)] (rvX0 7) rvInf (rvFind2 tb_L) 1476 2048 600002 7302232 84000 7 100 1127 rvAl0 [] rvAw0 132 19068) = true := by decide +kernel
theorem oc_32_1 : rvGd (rvRun rvTy rvNf rvTxt [((-2147483648), 2147483647), (0, 2147483647), ((-2147483648), 2147483647), ((-2147483648), 2147483647), ((-2147483648), 2147483647), ((-2147483648), 2147483647)] (rvX0 7) rvInf (rvFind2 tb_L) 1476 2048 600002 7302232 84000 7 100 1127 rvAl0 [] rvAw0 132 19068) = true := by decide +kernel
theorem oc_33_0 : rvGd (rvRun rvTy rvNf rvTxt [((-2147483648), 2147483647), ((-2147483648), 2147483647), ((-2147483648), 2147483647), ((-2147483648), 2147483647), ((-2147483648), 2147483647), ((-2147483648), 2147483647)] (rvX0 7) rvInf (rvFind2 tb_L) 1476 2048 600002 7302232 84000 7 100 1164 rvAl0 [] rvAw0 132 19068) = true := by decide +kernel
theorem oc_34_0 : rvGd (rvRun rvTy rvNf rvTxt [((-2147483648), 2147483647), ((-2147483648), (-1)), ((-2147483648), 2147483647), ((-2147483648), 2147483647), ((-2147483648), 2147483647), ((-2147483648), 2147483647)] (rvX0 7) rvInf (rvFind2 tb_L) 1476 2048 600002 7302232 84000 7 100 1177 rvAl0 [] rvAw0 132 19068) = true := by decide +kernel
theorem oc_34_1 : rvGd (rvRun rvTy rvNf rvTxt [((-2147483648), 2147483647), (0, 2147483647), ((-2147483648), 2147483647), ((-2147483648), 2147483647), ((-2147483648), 2147483647), ((-2147483648), 2147483647)] (rvX0 7) rvInf (rvFind2 tb_L) 1476 2048 600002 7302232 84000 7 100 1177 rvAl0 [] rvAw0 132 19068) = true := by decide +kernel
theorem oc_35_0 : rvGd (rvRun rvTy rvNf rvTxt [((-2147483648), 2147483647), ((-2147483648), (-1)), ((-2147483648), 2147483647), ((-2147483648), 2147483647), ((-2147483648), 2147483647), ((-2147483648), 2147483647)] (rvX0 7) rvInf (rvFind2 tb_L) 1476 2048 600002 7302232 84000 7 100 1202 rvAl0 [] rvAw0 132 19068) = true := by decide +kernel
theorem oc_35_1 : rvGd (rvRun rvTy rvNf rvTxt [((-2147483648), 2147483647), (0, 2147483647), ((-2147483648), 2147483647), ((-2147483648), 2147483647), ((-2147483648), 2147483647), ((-2147483648), 2147483647)] (rvX0 7) rvInf (rvFind2 tb_L) 1476 2048 600002 7302232 84000 7 100 1202 rvAl0 [] rvAw0 132 19068) = true := by decide +kernel
theorem oc_36_0 : rvGd (rvRun rvTy rvNf rvTxt [((-2147483648), 2147483647), ((-2147483648), 0), ((-2147483648), 2147483647), ((-2147483648), 2147483647), ((-2147483648), 2147483647), ((-2147483648), 2147483647)] (rvX0 7) rvInf (rvFind2 tb_L) 1476 2048 600002 7302232 84000 7 100 1227 rvAl0 [] rvAw0 132 19068) = true := by decide +kernel
theorem oc_36_1 : rvGd (rvRun rvTy rvNf rvTxt [((-2147483648), 2147483647), (1, 60), ((-2147483648), 2147483647), ((-2147483648), 2147483647), ((-2147483648), 2147483647), ((-2147483648), 2147483647)] (rvX0 7) rvInf (rvFind2 tb_L) 1476 2048 600002 7302232 84000 7 100 1227 rvAl0 [] rvAw0 132 19068) = true := by decide +kernel
theorem oc_36_2 : rvGd (rvRun rvTy rvNf rvTxt [((-2147483648), 2147483647), (61, 2147483647), ((-2147483648), 2147483647), ((-2147483648), 2147483647), ((-2147483648), 2147483647), ((-2147483648), 2147483647)] (rvX0 7) rvInf (rvFind2 tb_L) 1476 2048 600002 7302232 84000 7 100 1227 rvAl0 [] rvAw0 132 19068) = true := by decide +kernel
theorem oc_37_0 : rvGd (rvRun rvTy rvNf rvTxt [((-2147483648), 2147483647), ((-2147483648), (-1)), ((-2147483648), 2147483647), ((-2147483648), 2147483647), ((-2147483648), 2147483647), ((-2147483648), 2147483647)] (rvX0 7) rvInf (rvFind2 tb_L) 1476 2048 600002 7302232 84000 7 100 1264 rvAl0 [] rvAw0 132 19068) = true := by decide +kernel
theorem oc_37_1 : rvGd (rvRun rvTy rvNf rvTxt [((-2147483648), 2147483647), (0, 2147483647), ((-2147483648), 2147483647), ((-2147483648), 2147483647), ((-2147483648), 2147483647), ((-2147483648), 2147483647)] (rvX0 7) rvInf (rvFind2 tb_L) 1476 2048 600002 7302232 84000 7 100 1264 rvAl0 [] rvAw0 132 19068) = true := by decide +kernel
theorem oc_38_0 : rvGd (rvRun rvTy rvNf rvTxt [((-2147483648), 2147483647), ((-2147483648), (-1)), ((-2147483648), 2147483647), ((-2147483648), 2147483647), ((-2147483648), 2147483647), ((-2147483648), 2147483647)] (rvX0 7) rvInf (rvFind2 tb_L) 1476 2048 600002 7302232 84000 7 100 1313 rvAl0 [] rvAw0 132 19068) = true := by decide +kernel
theorem oc_38_1 : rvGd (rvRun rvTy rvNf rvTxt [((-2147483648), 2147483647), (0, 0), ((-2147483648), 2147483647), ((-2147483648), 2147483647), ((-2147483648), 2147483647), ((-2147483648), 2147483647)] (rvX0 7) rvInf (rvFind2 tb_L) 1476 2048 600002 7302232 84000 7 100 1313 rvAl0 [] rvAw0 132 19068) = true := by decide +kernel
theorem oc_38_2 : rvGd (rvRun rvTy rvNf rvTxt [((-2147483648), 2147483647), (1, 1), ((-2147483648), 2147483647), ((-2147483648), 2147483647), ((-2147483648), 2147483647), ((-2147483648), 2147483647)] (rvX0 7) rvInf (rvFind2 tb_L) 1476 2048 600002 7302232 84000 7 100 1313 rvAl0 [] rvAw0 132 19068) = true := by decide +kernel
theorem oc_38_3 : rvGd (rvRun rvTy rvNf rvTxt [((-2147483648), 2147483647), (2, 2147483647), ((-2147483648), 2147483647), ((-2147483648), 2147483647), ((-2147483648), 2147483647), ((-2147483648), 2147483647)] (rvX0 7) rvInf (rvFind2 tb_L) 1476 2048 600002 7302232 84000 7 100 1313 rvAl0 [] rvAw0 132 19068) = true := by decide +kernel
theorem oc_39_0 : rvGd (rvRun rvTy rvNf rvTxt [((-2147483648), 2147483647), ((-2147483648), (-1)), ((-2147483648), 2147483647), ((-2147483648), 2147483647), ((-2147483648), 2147483647), ((-2147483648), 2147483647)] (rvX0 7) rvInf (rvFind2 tb_L) 1476 2048 600002 7302232 84000 7 100 1338 rvAl0 [] rvAw0 132 19068) = true := by decide +kernel
theorem oc_39_1 : rvGd (rvRun rvTy rvNf rvTxt [((-2147483648), 2147483647), (0, 3), ((-2147483648), 2147483647), ((-2147483648), 2147483647), ((-2147483648), 2147483647), ((-2147483648), 2147483647)] (rvX0 7) rvInf (rvFind2 tb_L) 1476 2048 600002 7302232 84000 7 100 1338 rvAl0 [] rvAw0 132 19068) = true := by decide +kernel
theorem oc_39_2 : rvGd (rvRun rvTy rvNf rvTxt [((-2147483648), 2147483647), (4, 2147483647), ((-2147483648), 2147483647), ((-2147483648), 2147483647), ((-2147483648), 2147483647), ((-2147483648), 2147483647)] (rvX0 7) rvInf (rvFind2 tb_L) 1476 2048 600002 7302232 84000 7 100 1338 rvAl0 [] rvAw0 132 19068) = true := by decide +kernel
theorem oc_40_0 : rvGd (rvRun rvTy rvNf rvTxt [((-2147483648), 2147483647), ((-2147483648), 2147483647), ((-2147483648), 2147483647), ((-2147483648), 2147483647), ((-2147483648), 2147483647), ((-2147483648), 2147483647)] (rvX0 7) rvInf (rvFind2 tb_L) 1476 2048 600002 7302232 84000 7 100 1363 rvAl0 [] rvAw0 132 19068) = true := by decide +kernel
theorem oc_41_0 : rvGd (rvRun rvTy rvNf rvTxt [((-2147483648), 2147483647), ((-2147483648), (-2)), ((-2147483648), 2147483647), ((-2147483648), 2147483647), ((-2147483648), 2147483647), ((-2147483648), 2147483647)] (rvX0 7) rvInf (rvFind2 tb_L) 1476 2048 600002 7302232 84000 7 100 1376 rvAl0 [] rvAw0 132 19068) = true := by decide +kernel
theorem oc_41_1 : rvGd (rvRun rvTy rvNf rvTxt [((-2147483648), 2147483647), ((-1), 2147483647), ((-2147483648), 2147483647), ((-2147483648), 2147483647), ((-2147483648), 2147483647), ((-2147483648), 2147483647)] (rvX0 7) rvInf (rvFind2 tb_L) 1476 2048 600002 7302232 84000 7 100 1376 rvAl0 [] rvAw0 132 19068) = true := by decide +kernel
theorem oc_43_0 : rvGd (rvRun rvTy rvNf rvTxt [((-2147483648), 2147483647), ((-2147483648), (-1)), ((-2147483648), 2147483647), ((-2147483648), 2147483647), ((-2147483648), 2147483647), ((-2147483648), 2147483647)] (rvX0 7) rvInf (rvFind2 tb_L) 1476 2048 600002 7302232 84000 7 100 1426 rvAl0 [] rvAw0 132 19068) = true := by decide +kernel
theorem oc_43_1 : rvGd (rvRun rvTy rvNf rvTxt [((-2147483648), 2147483647), (0, 0), ((-2147483648), 2147483647), ((-2147483648), 2147483647), ((-2147483648), 2147483647), ((-2147483648), 2147483647)] (rvX0 7) rvInf (rvFind2 tb_L) 1476 2048 600002 7302232 84000 7 100 1426 rvAl0 [] rvAw0 132 19068) = true := by decide +kernel
theorem oc_43_2 : rvGd (rvRun rvTy rvNf rvTxt [((-2147483648), 2147483647), (1, 1), ((-2147483648), 2147483647), ((-2147483648), 2147483647), ((-2147483648), 2147483647), ((-2147483648), 2147483647)] (rvX0 7) rvInf (rvFind2 tb_L) 1476 2048 600002 7302232 84000 7 100 1426 rvAl0 [] rvAw0 132 19068) = true := by decide +kernel
theorem oc_43_3 : rvGd (rvRun rvTy rvNf rvTxt [((-2147483648), 2147483647), (2, 2147483647), ((-2147483648), 2147483647), ((-2147483648), 2147483647), ((-2147483648), 2147483647), ((-2147483648), 2147483647)] (rvX0 7) rvInf (rvFind2 tb_L) 1476 2048 600002 7302232 84000 7 100 1426 rvAl0 [] rvAw0 132 19068) = true := by decide +kernel
theorem oc_44_0 : rvGd (rvRun rvTy rvNf rvTxt [((-2147483648), 2147483647), ((-2147483648), (-1)), ((-2147483648), 2147483647), ((-2147483648), 2147483647), ((-2147483648), 2147483647), ((-2147483648), 2147483647)] (rvX0 7) rvInf (rvFind2 tb_L) 1476 2048 600002 7302232 84000 7 100 1451 rvAl0 [] rvAw0 132 19068) = true := by decide +kernel
theorem oc_44_1 : rvGd (rvRun rvTy rvNf rvTxt [((-2147483648), 2147483647), (0, 0), ((-2147483648), 2147483647), ((-2147483648), 2147483647), ((-2147483648), 2147483647), ((-2147483648), 2147483647)] (rvX0 7) rvInf (rvFind2 tb_L) 1476 2048 600002 7302232 84000 7 100 1451 rvAl0 [] rvAw0 132 19068) = true := by decide +kernel
theorem oc_44_2 : rvGd (rvRun rvTy rvNf rvTxt [((-2147483648), 2147483647), (1, 1), ((-2147483648), 2147483647), ((-2147483648), 2147483647), ((-2147483648), 2147483647), ((-2147483648), 2147483647)] (rvX0 7) rvInf (rvFind2 tb_L) 1476 2048 600002 7302232 84000 7 100 1451 rvAl0 [] rvAw0 132 19068) = true := by decide +kernel
theorem oc_44_3 : rvGd (rvRun rvTy rvNf rvTxt [((-2147483648), 2147483647), (2, 2), ((-2147483648), 2147483647), ((-2147483648), 2147483647), ((-2147483648), 2147483647), ((-2147483648), 2147483647)] (rvX0 7) rvInf (rvFind2 tb_L) 1476 2048 600002 7302232 84000 7 100 1451 rvAl0 [] rvAw0 132 19068) = true := by decide +kernel
theorem oc_44_4 : rvGd (rvRun rvTy rvNf rvTxt [((-2147483648), 2147483647), (3, 3), ((-2147483648), 2147483647), ((-2147483648), 2147483647), ((-2147483648), 2147483647), ((-2147483648), 2147483647)] (rvX0 7) rvInf (rvFind2 tb_L) 1476 2048 600002 7302232 84000 7 100 1451 rvAl0 [] rvAw0 132 19068) = true := by decide +kernel
theorem oc_44_5 : rvGd (rvRun rvTy rvNf rvTxt [((-2147483648), 2147483647), (4, 4), ((-2147483648), 2147483647), ((-2147483648), 2147483647), ((-2147483648), 2147483647), ((-2147483648), 2147483647)] (rvX0 7) rvInf (rvFind2 tb_L) 1476 2048 600002 7302232 84000 7 100 1451 rvAl0 [] rvAw0 132 19068) = true := by decide +kernel
theorem oc_44_6 : rvGd (rvRun rvTy rvNf rvTxt [((-2147483648), 2147483647), (5, 5), ((-2147483648), 2147483647), ((-2147483648), 2147483647), ((-2147483648), 2147483647), ((-2147483648), 2147483647)] (rvX0 7) rvInf (rvFind2 tb_L) 1476 2048 600002 7302232 84000 7 100 1451 rvAl0 [] rvAw0 132 19068) = true := by decide +kernel
theorem oc_44_7 : rvGd (rvRun rvTy rvNf rvTxt [((-2147483648), 2147483647), (6, 2147483647), ((-2147483648), 2147483647), ((-2147483648), 2147483647), ((-2147483648), 2147483647), ((-2147483648), 2147483647)] (rvX0 7) rvInf (rvFind2 tb_L) 1476 2048 600002 7302232 84000 7 100 1451 rvAl0 [] rvAw0 132 19068) = true := by decide +kernel
theorem oc_45_0 : rvGd (rvRun rvTy rvNf rvTxt [((-2147483648), 2147483647), ((-2147483648), 2147483647), ((-2147483648), 2147483647), ((-2147483648), 2147483647), ((-2147483648), 2147483647), ((-2147483648), 2147483647)] (rvX0 7) rvInf (rvFind2 tb_L) 1476 2048 600002 7302232 84000 7 100 1476 rvAl0 [] rvAw0 132 19068) = true := by decide +kernel
theorem oc_46_0 : rvGd (rvRun rvTy rvNf rvTxt [((-2147483648), 2147483647), ((-2147483648), 2147483647), ((-2147483648), 2147483647), ((-2147483648), 2147483647), ((-2147483648), 2147483647), ((-2147483648), 2147483647)] (rvX0 7) rvInf (rvFind2 tb_L) 1476 2048 600002 7302232 84000 7 100 1476 rvAl0 [] rvAw0 132 19068) = true := by decide +kernel
theorem oc_47_0 : rvGd (rvRun rvTy rvNf rvTxt [((-2147483648), 2147483647), ((-2147483648), 2147483647), ((-2147483648), 2147483647), ((-2147483648), 2147483647), ((-2147483648), 2147483647), ((-2147483648), 2147483647)] (rvX0 7) rvInf (rvFind2 tb_L) 1476 2048 600002 7302232 84000 7 100 1476 rvAl0 [] rvAw0 132 19068) = true := by decide +kernel
theorem oc_48_0 : rvGd (rvRun rvTy rvNf rvTxt [((-2147483648), 2147483647), ((-2147483648), 2147483647), ((-2147483648), 2147483647), ((-2147483648), 2147483647), ((-2147483648), 2147483647), ((-2147483648), 2147483647)] (rvX0 7) rvInf (rvFind2 tb_L) 1476 2048 600002 7302232 84000 7 100 1476 rvAl0 [] rvAw0 132 19068) = true := by decide +kernel
theorem oc_49_0 : rvGd (rvRun rvTy rvNf rvTxt [((-2147483648), 2147483647), ((-2147483648), 2147483647), ((-2147483648), 2147483647), ((-2147483648), 2147483647), ((-2147483648), 2147483647), ((-2147483648), 2147483647)] (rvX0 7) rvInf (rvFind2 tb_L) 1476 2048 600002 7302232 84000 7 100 1476 rvAl0 [] rvAw0 132 19068) = true := by decide +kernel
theorem oc_50_0 : rvGd (rvRun rvTy rvNf rvTxt [((-2147483648), 2147483647), ((-2147483648), 2147483647), ((-2147483648), 2147483647), ((-2147483648), 2147483647), ((-2147483648), 2147483647), ((-2147483648), 2147483647)] (rvX0 7) rvInf (rvFind2 tb_L) 1476 2048 600002 7302232 84000 7 100 1476 rvAl0 [] rvAw0 132 19068) = true := by decide +kernel
theorem oc_51_0 : rvGd (rvRun rvTy rvNf rvTxt [((-2147483648), 2147483647), ((-2147483648), 2147483647), ((-2147483648), 2147483647), ((-2147483648), 2147483647), ((-2147483648), 2147483647), ((-2147483648), 2147483647)] (rvX0 7) rvInf (rvFind2 tb_L) 1476 2048 600002 7302232 84000 7 100 1476 rvAl0 [] rvAw0 132 19068) = true := by decide +kernel
theorem oc_52_0 : rvGd (rvRun rvTy rvNf rvTxt [((-2147483648), 2147483647), ((-2147483648), 2147483647), ((-2147483648), 2147483647), ((-2147483648), 2147483647), ((-2147483648), 2147483647), ((-2147483648), 2147483647)] (rvX0 7) rvInf (rvFind2 tb_L) 1476 2048 600002 7302232 84000 7 100 1476 rvAl0 [] rvAw0 132 19068) = true := by decide +kernel
theorem oc_53_0 : rvGd (rvRun rvTy rvNf rvTxt [((-2147483648), 2147483647), ((-2147483648), 2147483647), ((-2147483648), 2147483647), ((-2147483648), 2147483647), ((-2147483648), 2147483647), ((-2147483648), 2147483647)] (rvX0 7) rvInf (rvFind2 tb_L) 1476 2048 600002 7302232 84000 7 100 1476 rvAl0 [] rvAw0 132 19068) = true := by decide +kernel
theorem oc_54_0 : rvGd (rvRun rvTy rvNf rvTxt [((-2147483648), 2147483647), ((-2147483648), 2147483647), ((-2147483648), 2147483647), ((-2147483648), 2147483647), ((-2147483648), 2147483647), ((-2147483648), 2147483647)] (rvX0 7) rvInf (rvFind2 tb_L) 1476 2048 600002 7302232 84000 7 100 1476 rvAl0 [] rvAw0 132 19068) = true := by decide +kernel
theorem oc_55_0 : rvGd (rvRun rvTy rvNf rvTxt [((-2147483648), 2147483647), ((-2147483648), 2147483647), ((-2147483648), 2147483647), ((-2147483648), 2147483647), ((-2147483648), 2147483647), ((-2147483648), 2147483647)] (rvX0 7) rvInf (rvFind2 tb_L) 1476 2048 600002 7302232 84000 7 100 1476 rvAl0 [] rvAw0 132 19068) = true := by decide +kernel
theorem oc_56_0 : rvGd (rvRun rvTy rvNf rvTxt [((-2147483648), 2147483647), ((-2147483648), 2147483647), ((-2147483648), 2147483647), ((-2147483648), 2147483647), ((-2147483648), 2147483647), ((-2147483648), 2147483647)] (rvX0 7) rvInf (rvFind2 tb_L) 1476 2048 600002 7302232 84000 7 100 1476 rvAl0 [] rvAw0 132 19068) = true := by decide +kernel
theorem oc_57_0 : rvGd (rvRun rvTy rvNf rvTxt [((-2147483648), 2147483647), ((-2147483648), 2147483647), ((-2147483648), 2147483647), ((-2147483648), 2147483647), ((-2147483648), 2147483647), ((-2147483648), 2147483647)] (rvX0 7) rvInf (rvFind2 tb_L) 1476 2048 600002 7302232 84000 7 100 1476 rvAl0 [] rvAw0 132 19068) = true := by decide +kernel
theorem oc_58_0 : rvGd (rvRun rvTy rvNf rvTxt [((-2147483648), 2147483647), ((-2147483648), 2147483647), ((-2147483648), 2147483647), ((-2147483648), 2147483647), ((-2147483648), 2147483647), ((-2147483648), 2147483647)] (rvX0 7) rvInf (rvFind2 tb_L) 1476 2048 600002 7302232 84000 7 100 1476 rvAl0 [] rvAw0 132 19068) = true := by decide +kernel
theorem oc_59_0 : rvGd (rvRun rvTy rvNf rvTxt [((-2147483648), 2147483647), ((-2147483648), 2147483647), ((-2147483648), 2147483647), ((-2147483648), 2147483647), ((-2147483648), 2147483647), ((-2147483648), 2147483647)] (rvX0 7) rvInf (rvFind2 tb_L) 1476 2048 600002 7302232 84000 7 100 1476 rvAl0 [] rvAw0 132 19068) = true := by decide +kernel
theorem oc_60_0 : rvGd (rvRun rvTy rvNf rvTxt [((-2147483648), 2147483647), ((-2147483648), 2147483647), ((-2147483648), 2147483647), ((-2147483648), 2147483647), ((-2147483648), 2147483647), ((-2147483648), 2147483647)] (rvX0 7) rvInf (rvFind2 tb_L) 1476 2048 600002 7302232 84000 7 100 1476 rvAl0 [] rvAw0 132 19068) = true := by decide +kernel
theorem oc_61_0 : rvGd (rvRun rvTy rvNf rvTxt [((-2147483648), 2147483647), ((-2147483648), 2147483647), ((-2147483648), 2147483647), ((-2147483648), 2147483647), ((-2147483648), 2147483647), ((-2147483648), 2147483647)] (rvX0 7) rvInf (rvFind2 tb_L) 1476 2048 600002 7302232 84000 7 100 1476 rvAl0 [] rvAw0 132 19068) = true := by decide +kernel
theorem oc_62_0 : rvGd (rvRun rvTy rvNf rvTxt [((-2147483648), 2147483647), ((-2147483648), 2147483647), ((-2147483648), 2147483647), ((-2147483648), 2147483647), ((-2147483648), 2147483647), ((-2147483648), 2147483647)] (rvX0 7) rvInf (rvFind2 tb_L) 1476 2048 600002 7302232 84000 7 100 1476 rvAl0 [] rvAw0 132 19068) = true := by decide +kernel
theorem oc_63_0 : rvGd (rvRun rvTy rvNf rvTxt [((-2147483648), 2147483647), ((-2147483648), 2147483647), ((-2147483648), 2147483647), ((-2147483648), 2147483647), ((-2147483648), 2147483647), ((-2147483648), 2147483647)] (rvX0 7) rvInf (rvFind2 tb_L) 1476 2048 600002 7302232 84000 7 100 1476 rvAl0 [] rvAw0 132 19068) = true := by decide +kernel
end
section
section RVK
variable {p : Program} {l : Launch} {e : Env} {s : State} {m : MethodId} {args : Array Value} {below : List Frame} {meth : Method} {c : Code} {Q : State → Prop} {D : va_G} {cT : Nat → ClassId} {ex : Nat → Nat → Nat} {A : Nat → Prop} {xs : Nat → Int32}
/-- the script's numbers in their intervals -/
theorem rvSx6 {a1 a2 a3 a4 a5 : Int × Int} (h : va_X (ex 5 0) 6 xs s s.heap ∧ ex 5 0 < s.heap.size ∧ ¬ A (ex 5 0)) (h1 : a1.1 ≤ (xs 1).toInt ∧ (xs 1).toInt ≤ a1.2) (h2 : a2.1 ≤ (xs 2).toInt ∧ (xs 2).toInt ≤ a2.2) (h3 : a3.1 ≤ (xs 3).toInt ∧ (xs 3).toInt ≤ a3.2) (h4 : a4.1 ≤ (xs 4).toInt ∧ (xs 4).toInt ≤ a4.2) (h5 : a5.1 ≤ (xs 5).toInt ∧ (xs 5).toInt ≤ a5.2) :
    rvSx ex A s [(-2147483648, 2147483647), a1, a2, a3, a4, a5] := by
  refine Or.inr ⟨xs, h.1, h.2.1, h.2.2, fun j a hj => ?_⟩
  match j, hj with
  | 0, hj => cases hj; exact ⟨rv_lo _, rv_hi _⟩
  | 1, hj => cases hj; exact h1
  | 2, hj => cases hj; exact h2
  | 3, hj => cases hj; exact h3
  | 4, hj => cases hj; exact h4
  | 5, hj => cases hj; exact h5
  | n + 6, hj => cases hj
theorem rv_any (n : Int32) : (((-2147483648 : Int), (2147483647 : Int)) : Int × Int).1 ≤ n.toInt ∧ n.toInt ≤ (((-2147483648 : Int), (2147483647 : Int)) : Int × Int).2 := ⟨rv_lo n, rv_hi n⟩
abbrev rvEnds (p : Program) (l : Launch) (e : Env) (s : State) (m : MethodId) (args : Array Value) (below : List Frame) (meth : Method) (c : Code) (Q : State → Prop) (D : va_G) (cT : Nat → ClassId) (ex : Nat → Nat → Nat) (A : Nat → Prop) : Prop :=
  ∀ (al : List rvV) (aw : rvH) (kc ks : Nat), al[0]? = some (.inr (5, 0)) → al[4]? = some (.inl (0, 0)) → kc ≤ 600002 → ks ≤ 7302232 → rvG p l e room_1 s m args below meth c Q D cT ex A 7 (1476, al, [], aw, kc, ks)
def tb_S : List (Nat × List (Nat × rvE)) := [(41, [(40, (.tableswitch 1436 0 44 #[196, 269, 294, 307, 320, 388, 425, 450, 487, 524, 561, 586, 611, 648, 685, 722, 747, 772, 797, 810, 835, 848, 861, 886, 899, 924, 937, 962, 999, 1048, 1061, 1074, 1087, 1124, 1137, 1162, 1187, 1224, 1273, 1298, 1323, 1336, 1361, 1386, 1411], 196, 0, 0, 0, 0))])]
theorem rvT_S : rvTk rvYn rvKd 168 RL cL_law false (rvFind2 tb_S) := rvTc_ok (by decide +kernel)
theorem rvSw {j : Int} {pc : Nat} (hC : ∀ sc, rvSx ex A s sc → rvCx p s m args meth c code RL 7 D cT ex A false sc) (h : rvRun rvTy rvNf rvTxt [] (fun _ _ _ => none) rvInf (rvFind2 tb_S) 99999999 0 0 0 0 7 1 40 rvAl0 [.inl (j, j)] rvAw0 132 19068 = some (pc, rvAl0, [], rvAw0, 132, 19068)) (k : rvG p l e room_1 s m args below meth c Q D cT ex A 7 (pc, rvAl0, [], rvAw0, 132, 19068)) : rvG p l e room_1 s m args below meth c Q D cT ex A 7 (40, rvAl0, [.inl (j, j)], rvAw0, 132, 19068) :=
  rvRun_ok (hC [] (Or.inl rfl)) rvBase_ok (fun _ _ => rfl) rvM_all (fun _ _ _ _ _ h => by cases h) rvT_S (Nat.zero_le _) (Nat.zero_le _) (Nat.zero_le _) (Nat.zero_le _) k 1 40 _ _ _ _ _ h
theorem rvSw_0 : rvRun rvTy rvNf rvTxt [] (fun _ _ _ => none) rvInf (rvFind2 tb_S) 99999999 0 0 0 0 7 1 40 rvAl0 [.inl (0, 0)] rvAw0 132 19068 = some (236, rvAl0, [], rvAw0, 132, 19068) := rvOk_ok (by decide +kernel)
theorem rvSw_1 : rvRun rvTy rvNf rvTxt [] (fun _ _ _ => none) rvInf (rvFind2 tb_S) 99999999 0 0 0 0 7 1 40 rvAl0 [.inl (1, 1)] rvAw0 132 19068 = some (309, rvAl0, [], rvAw0, 132, 19068) := rvOk_ok (by decide +kernel)
theorem rvSw_2 : rvRun rvTy rvNf rvTxt [] (fun _ _ _ => none) rvInf (rvFind2 tb_S) 99999999 0 0 0 0 7 1 40 rvAl0 [.inl (2, 2)] rvAw0 132 19068 = some (334, rvAl0, [], rvAw0, 132, 19068) := rvOk_ok (by decide +kernel)
theorem rvSw_3 : rvRun rvTy rvNf rvTxt [] (fun _ _ _ => none) rvInf (rvFind2 tb_S) 99999999 0 0 0 0 7 1 40 rvAl0 [.inl (3, 3)] rvAw0 132 19068 = some (347, rvAl0, [], rvAw0, 132, 19068) := rvOk_ok (by decide +kernel)
theorem rvSw_4 : rvRun rvTy rvNf rvTxt [] (fun _ _ _ => none) rvInf (rvFind2 tb_S) 99999999 0 0 0 0 7 1 40 rvAl0 [.inl (4, 4)] rvAw0 132 19068 = some (360, rvAl0, [], rvAw0, 132, 19068) := rvOk_ok (by decide +kernel)
theorem rvSw_5 : rvRun rvTy rvNf rvTxt [] (fun _ _ _ => none) rvInf (rvFind2 tb_S) 99999999 0 0 0 0 7 1 40 rvAl0 [.inl (5, 5)] rvAw0 132 19068 = some (428, rvAl0, [], rvAw0, 132, 19068) := rvOk_ok (by decide +kernel)
theorem rvSw_6 : rvRun rvTy rvNf rvTxt [] (fun _ _ _ => none) rvInf (rvFind2 tb_S) 99999999 0 0 0 0 7 1 40 rvAl0 [.inl (6, 6)] rvAw0 132 19068 = some (465, rvAl0, [], rvAw0, 132, 19068) := rvOk_ok (by decide +kernel)
theorem rvSw_7 : rvRun rvTy rvNf rvTxt [] (fun _ _ _ => none) rvInf (rvFind2 tb_S) 99999999 0 0 0 0 7 1 40 rvAl0 [.inl (7, 7)] rvAw0 132 19068 = some (490, rvAl0, [], rvAw0, 132, 19068) := rvOk_ok (by decide +kernel)
theorem rvSw_8 : rvRun rvTy rvNf rvTxt [] (fun _ _ _ => none) rvInf (rvFind2 tb_S) 99999999 0 0 0 0 7 1 40 rvAl0 [.inl (8, 8)] rvAw0 132 19068 = some (527, rvAl0, [], rvAw0, 132, 19068) := rvOk_ok (by decide +kernel)
theorem rvSw_9 : rvRun rvTy rvNf rvTxt [] (fun _ _ _ => none) rvInf (rvFind2 tb_S) 99999999 0 0 0 0 7 1 40 rvAl0 [.inl (9, 9)] rvAw0 132 19068 = some (564, rvAl0, [], rvAw0, 132, 19068) := rvOk_ok (by decide +kernel)
theorem rvSw_10 : rvRun rvTy rvNf rvTxt [] (fun _ _ _ => none) rvInf (rvFind2 tb_S) 99999999 0 0 0 0 7 1 40 rvAl0 [.inl (10, 10)] rvAw0 132 19068 = some (601, rvAl0, [], rvAw0, 132, 19068) := rvOk_ok (by decide +kernel)
theorem rvSw_11 : rvRun rvTy rvNf rvTxt [] (fun _ _ _ => none) rvInf (rvFind2 tb_S) 99999999 0 0 0 0 7 1 40 rvAl0 [.inl (11, 11)] rvAw0 132 19068 = some (626, rvAl0, [], rvAw0, 132, 19068) := rvOk_ok (by decide +kernel)
theorem rvSw_12 : rvRun rvTy rvNf rvTxt [] (fun _ _ _ => none) rvInf (rvFind2 tb_S) 99999999 0 0 0 0 7 1 40 rvAl0 [.inl (12, 12)] rvAw0 132 19068 = some (651, rvAl0, [], rvAw0, 132, 19068) := rvOk_ok (by decide +kernel)
theorem rvSw_13 : rvRun rvTy rvNf rvTxt [] (fun _ _ _ => none) rvInf (rvFind2 tb_S) 99999999 0 0 0 0 7 1 40 rvAl0 [.inl (13, 13)] rvAw0 132 19068 = some (688, rvAl0, [], rvAw0, 132, 19068) := rvOk_ok (by decide +kernel)
theorem rvSw_14 : rvRun rvTy rvNf rvTxt [] (fun _ _ _ => none) rvInf (rvFind2 tb_S) 99999999 0 0 0 0 7 1 40 rvAl0 [.inl (14, 14)] rvAw0 132 19068 = some (725, rvAl0, [], rvAw0, 132, 19068) := rvOk_ok (by decide +kernel)
theorem rvSw_15 : rvRun rvTy rvNf rvTxt [] (fun _ _ _ => none) rvInf (rvFind2 tb_S) 99999999 0 0 0 0 7 1 40 rvAl0 [.inl (15, 15)] rvAw0 132 19068 = some (762, rvAl0, [], rvAw0, 132, 19068) := rvOk_ok (by decide +kernel)
theorem rvSw_16 : rvRun rvTy rvNf rvTxt [] (fun _ _ _ => none) rvInf (rvFind2 tb_S) 99999999 0 0 0 0 7 1 40 rvAl0 [.inl (16, 16)] rvAw0 132 19068 = some (787, rvAl0, [], rvAw0, 132, 19068) := rvOk_ok (by decide +kernel)
theorem rvSw_17 : rvRun rvTy rvNf rvTxt [] (fun _ _ _ => none) rvInf (rvFind2 tb_S) 99999999 0 0 0 0 7 1 40 rvAl0 [.inl (17, 17)] rvAw0 132 19068 = some (812, rvAl0, [], rvAw0, 132, 19068) := rvOk_ok (by decide +kernel)
theorem rvSw_18 : rvRun rvTy rvNf rvTxt [] (fun _ _ _ => none) rvInf (rvFind2 tb_S) 99999999 0 0 0 0 7 1 40 rvAl0 [.inl (18, 18)] rvAw0 132 19068 = some (837, rvAl0, [], rvAw0, 132, 19068) := rvOk_ok (by decide +kernel)
theorem rvSw_19 : rvRun rvTy rvNf rvTxt [] (fun _ _ _ => none) rvInf (rvFind2 tb_S) 99999999 0 0 0 0 7 1 40 rvAl0 [.inl (19, 19)] rvAw0 132 19068 = some (850, rvAl0, [], rvAw0, 132, 19068) := rvOk_ok (by decide +kernel)
theorem rvSw_20 : rvRun rvTy rvNf rvTxt [] (fun _ _ _ => none) rvInf (rvFind2 tb_S) 99999999 0 0 0 0 7 1 40 rvAl0 [.inl (20, 20)] rvAw0 132 19068 = some (875, rvAl0, [], rvAw0, 132, 19068) := rvOk_ok (by decide +kernel)
theorem rvSw_21 : rvRun rvTy rvNf rvTxt [] (fun _ _ _ => none) rvInf (rvFind2 tb_S) 99999999 0 0 0 0 7 1 40 rvAl0 [.inl (21, 21)] rvAw0 132 19068 = some (888, rvAl0, [], rvAw0, 132, 19068) := rvOk_ok (by decide +kernel)
theorem rvSw_22 : rvRun rvTy rvNf rvTxt [] (fun _ _ _ => none) rvInf (rvFind2 tb_S) 99999999 0 0 0 0 7 1 40 rvAl0 [.inl (22, 22)] rvAw0 132 19068 = some (901, rvAl0, [], rvAw0, 132, 19068) := rvOk_ok (by decide +kernel)
theorem rvSw_23 : rvRun rvTy rvNf rvTxt [] (fun _ _ _ => none) rvInf (rvFind2 tb_S) 99999999 0 0 0 0 7 1 40 rvAl0 [.inl (23, 23)] rvAw0 132 19068 = some (926, rvAl0, [], rvAw0, 132, 19068) := rvOk_ok (by decide +kernel)
theorem rvSw_24 : rvRun rvTy rvNf rvTxt [] (fun _ _ _ => none) rvInf (rvFind2 tb_S) 99999999 0 0 0 0 7 1 40 rvAl0 [.inl (24, 24)] rvAw0 132 19068 = some (939, rvAl0, [], rvAw0, 132, 19068) := rvOk_ok (by decide +kernel)
theorem rvSw_25 : rvRun rvTy rvNf rvTxt [] (fun _ _ _ => none) rvInf (rvFind2 tb_S) 99999999 0 0 0 0 7 1 40 rvAl0 [.inl (25, 25)] rvAw0 132 19068 = some (964, rvAl0, [], rvAw0, 132, 19068) := rvOk_ok (by decide +kernel)
theorem rvSw_26 : rvRun rvTy rvNf rvTxt [] (fun _ _ _ => none) rvInf (rvFind2 tb_S) 99999999 0 0 0 0 7 1 40 rvAl0 [.inl (26, 26)] rvAw0 132 19068 = some (977, rvAl0, [], rvAw0, 132, 19068) := rvOk_ok (by decide +kernel)
theorem rvSw_27 : rvRun rvTy rvNf rvTxt [] (fun _ _ _ => none) rvInf (rvFind2 tb_S) 99999999 0 0 0 0 7 1 40 rvAl0 [.inl (27, 27)] rvAw0 132 19068 = some (1002, rvAl0, [], rvAw0, 132, 19068) := rvOk_ok (by decide +kernel)
theorem rvSw_28 : rvRun rvTy rvNf rvTxt [] (fun _ _ _ => none) rvInf (rvFind2 tb_S) 99999999 0 0 0 0 7 1 40 rvAl0 [.inl (28, 28)] rvAw0 132 19068 = some (1039, rvAl0, [], rvAw0, 132, 19068) := rvOk_ok (by decide +kernel)
theorem rvSw_29 : rvRun rvTy rvNf rvTxt [] (fun _ _ _ => none) rvInf (rvFind2 tb_S) 99999999 0 0 0 0 7 1 40 rvAl0 [.inl (29, 29)] rvAw0 132 19068 = some (1088, rvAl0, [], rvAw0, 132, 19068) := rvOk_ok (by decide +kernel)
theorem rvSw_30 : rvRun rvTy rvNf rvTxt [] (fun _ _ _ => none) rvInf (rvFind2 tb_S) 99999999 0 0 0 0 7 1 40 rvAl0 [.inl (30, 30)] rvAw0 132 19068 = some (1101, rvAl0, [], rvAw0, 132, 19068) := rvOk_ok (by decide +kernel)
theorem rvSw_31 : rvRun rvTy rvNf rvTxt [] (fun _ _ _ => none) rvInf (rvFind2 tb_S) 99999999 0 0 0 0 7 1 40 rvAl0 [.inl (31, 31)] rvAw0 132 19068 = some (1114, rvAl0, [], rvAw0, 132, 19068) := rvOk_ok (by decide +kernel)
theorem rvSw_32 : rvRun rvTy rvNf rvTxt [] (fun _ _ _ => none) rvInf (rvFind2 tb_S) 99999999 0 0 0 0 7 1 40 rvAl0 [.inl (32, 32)] rvAw0 132 19068 = some (1127, rvAl0, [], rvAw0, 132, 19068) := rvOk_ok (by decide +kernel)
theorem rvSw_33 : rvRun rvTy rvNf rvTxt [] (fun _ _ _ => none) rvInf (rvFind2 tb_S) 99999999 0 0 0 0 7 1 40 rvAl0 [.inl (33, 33)] rvAw0 132 19068 = some (1164, rvAl0, [], rvAw0, 132, 19068) := rvOk_ok (by decide +kernel)
theorem rvSw_34 : rvRun rvTy rvNf rvTxt [] (fun _ _ _ => none) rvInf (rvFind2 tb_S) 99999999 0 0 0 0 7 1 40 rvAl0 [.inl (34, 34)] rvAw0 132 19068 = some (1177, rvAl0, [], rvAw0, 132, 19068) := rvOk_ok (by decide +kernel)
theorem rvSw_35 : rvRun rvTy rvNf rvTxt [] (fun _ _ _ => none) rvInf (rvFind2 tb_S) 99999999 0 0 0 0 7 1 40 rvAl0 [.inl (35, 35)] rvAw0 132 19068 = some (1202, rvAl0, [], rvAw0, 132, 19068) := rvOk_ok (by decide +kernel)
theorem rvSw_36 : rvRun rvTy rvNf rvTxt [] (fun _ _ _ => none) rvInf (rvFind2 tb_S) 99999999 0 0 0 0 7 1 40 rvAl0 [.inl (36, 36)] rvAw0 132 19068 = some (1227, rvAl0, [], rvAw0, 132, 19068) := rvOk_ok (by decide +kernel)
theorem rvSw_37 : rvRun rvTy rvNf rvTxt [] (fun _ _ _ => none) rvInf (rvFind2 tb_S) 99999999 0 0 0 0 7 1 40 rvAl0 [.inl (37, 37)] rvAw0 132 19068 = some (1264, rvAl0, [], rvAw0, 132, 19068) := rvOk_ok (by decide +kernel)
theorem rvSw_38 : rvRun rvTy rvNf rvTxt [] (fun _ _ _ => none) rvInf (rvFind2 tb_S) 99999999 0 0 0 0 7 1 40 rvAl0 [.inl (38, 38)] rvAw0 132 19068 = some (1313, rvAl0, [], rvAw0, 132, 19068) := rvOk_ok (by decide +kernel)
theorem rvSw_39 : rvRun rvTy rvNf rvTxt [] (fun _ _ _ => none) rvInf (rvFind2 tb_S) 99999999 0 0 0 0 7 1 40 rvAl0 [.inl (39, 39)] rvAw0 132 19068 = some (1338, rvAl0, [], rvAw0, 132, 19068) := rvOk_ok (by decide +kernel)
theorem rvSw_40 : rvRun rvTy rvNf rvTxt [] (fun _ _ _ => none) rvInf (rvFind2 tb_S) 99999999 0 0 0 0 7 1 40 rvAl0 [.inl (40, 40)] rvAw0 132 19068 = some (1363, rvAl0, [], rvAw0, 132, 19068) := rvOk_ok (by decide +kernel)
theorem rvSw_41 : rvRun rvTy rvNf rvTxt [] (fun _ _ _ => none) rvInf (rvFind2 tb_S) 99999999 0 0 0 0 7 1 40 rvAl0 [.inl (41, 41)] rvAw0 132 19068 = some (1376, rvAl0, [], rvAw0, 132, 19068) := rvOk_ok (by decide +kernel)
theorem rvSw_42 : rvRun rvTy rvNf rvTxt [] (fun _ _ _ => none) rvInf (rvFind2 tb_S) 99999999 0 0 0 0 7 1 40 rvAl0 [.inl (42, 42)] rvAw0 132 19068 = some (1401, rvAl0, [], rvAw0, 132, 19068) := rvOk_ok (by decide +kernel)
theorem rvSw_43 : rvRun rvTy rvNf rvTxt [] (fun _ _ _ => none) rvInf (rvFind2 tb_S) 99999999 0 0 0 0 7 1 40 rvAl0 [.inl (43, 43)] rvAw0 132 19068 = some (1426, rvAl0, [], rvAw0, 132, 19068) := rvOk_ok (by decide +kernel)
theorem rvSw_44 : rvRun rvTy rvNf rvTxt [] (fun _ _ _ => none) rvInf (rvFind2 tb_S) 99999999 0 0 0 0 7 1 40 rvAl0 [.inl (44, 44)] rvAw0 132 19068 = some (1451, rvAl0, [], rvAw0, 132, 19068) := rvOk_ok (by decide +kernel)
theorem rvSw_45 : rvRun rvTy rvNf rvTxt [] (fun _ _ _ => none) rvInf (rvFind2 tb_S) 99999999 0 0 0 0 7 1 40 rvAl0 [.inl (45, 45)] rvAw0 132 19068 = some (1476, rvAl0, [], rvAw0, 132, 19068) := rvOk_ok (by decide +kernel)
theorem rvSw_46 : rvRun rvTy rvNf rvTxt [] (fun _ _ _ => none) rvInf (rvFind2 tb_S) 99999999 0 0 0 0 7 1 40 rvAl0 [.inl (46, 46)] rvAw0 132 19068 = some (1476, rvAl0, [], rvAw0, 132, 19068) := rvOk_ok (by decide +kernel)
theorem rvSw_47 : rvRun rvTy rvNf rvTxt [] (fun _ _ _ => none) rvInf (rvFind2 tb_S) 99999999 0 0 0 0 7 1 40 rvAl0 [.inl (47, 47)] rvAw0 132 19068 = some (1476, rvAl0, [], rvAw0, 132, 19068) := rvOk_ok (by decide +kernel)
theorem rvSw_48 : rvRun rvTy rvNf rvTxt [] (fun _ _ _ => none) rvInf (rvFind2 tb_S) 99999999 0 0 0 0 7 1 40 rvAl0 [.inl (48, 48)] rvAw0 132 19068 = some (1476, rvAl0, [], rvAw0, 132, 19068) := rvOk_ok (by decide +kernel)
theorem rvSw_49 : rvRun rvTy rvNf rvTxt [] (fun _ _ _ => none) rvInf (rvFind2 tb_S) 99999999 0 0 0 0 7 1 40 rvAl0 [.inl (49, 49)] rvAw0 132 19068 = some (1476, rvAl0, [], rvAw0, 132, 19068) := rvOk_ok (by decide +kernel)
theorem rvSw_50 : rvRun rvTy rvNf rvTxt [] (fun _ _ _ => none) rvInf (rvFind2 tb_S) 99999999 0 0 0 0 7 1 40 rvAl0 [.inl (50, 50)] rvAw0 132 19068 = some (1476, rvAl0, [], rvAw0, 132, 19068) := rvOk_ok (by decide +kernel)
theorem rvSw_51 : rvRun rvTy rvNf rvTxt [] (fun _ _ _ => none) rvInf (rvFind2 tb_S) 99999999 0 0 0 0 7 1 40 rvAl0 [.inl (51, 51)] rvAw0 132 19068 = some (1476, rvAl0, [], rvAw0, 132, 19068) := rvOk_ok (by decide +kernel)
theorem rvSw_52 : rvRun rvTy rvNf rvTxt [] (fun _ _ _ => none) rvInf (rvFind2 tb_S) 99999999 0 0 0 0 7 1 40 rvAl0 [.inl (52, 52)] rvAw0 132 19068 = some (1476, rvAl0, [], rvAw0, 132, 19068) := rvOk_ok (by decide +kernel)
theorem rvSw_53 : rvRun rvTy rvNf rvTxt [] (fun _ _ _ => none) rvInf (rvFind2 tb_S) 99999999 0 0 0 0 7 1 40 rvAl0 [.inl (53, 53)] rvAw0 132 19068 = some (1476, rvAl0, [], rvAw0, 132, 19068) := rvOk_ok (by decide +kernel)
theorem rvSw_54 : rvRun rvTy rvNf rvTxt [] (fun _ _ _ => none) rvInf (rvFind2 tb_S) 99999999 0 0 0 0 7 1 40 rvAl0 [.inl (54, 54)] rvAw0 132 19068 = some (1476, rvAl0, [], rvAw0, 132, 19068) := rvOk_ok (by decide +kernel)
theorem rvSw_55 : rvRun rvTy rvNf rvTxt [] (fun _ _ _ => none) rvInf (rvFind2 tb_S) 99999999 0 0 0 0 7 1 40 rvAl0 [.inl (55, 55)] rvAw0 132 19068 = some (1476, rvAl0, [], rvAw0, 132, 19068) := rvOk_ok (by decide +kernel)
theorem rvSw_56 : rvRun rvTy rvNf rvTxt [] (fun _ _ _ => none) rvInf (rvFind2 tb_S) 99999999 0 0 0 0 7 1 40 rvAl0 [.inl (56, 56)] rvAw0 132 19068 = some (1476, rvAl0, [], rvAw0, 132, 19068) := rvOk_ok (by decide +kernel)
theorem rvSw_57 : rvRun rvTy rvNf rvTxt [] (fun _ _ _ => none) rvInf (rvFind2 tb_S) 99999999 0 0 0 0 7 1 40 rvAl0 [.inl (57, 57)] rvAw0 132 19068 = some (1476, rvAl0, [], rvAw0, 132, 19068) := rvOk_ok (by decide +kernel)
theorem rvSw_58 : rvRun rvTy rvNf rvTxt [] (fun _ _ _ => none) rvInf (rvFind2 tb_S) 99999999 0 0 0 0 7 1 40 rvAl0 [.inl (58, 58)] rvAw0 132 19068 = some (1476, rvAl0, [], rvAw0, 132, 19068) := rvOk_ok (by decide +kernel)
theorem rvSw_59 : rvRun rvTy rvNf rvTxt [] (fun _ _ _ => none) rvInf (rvFind2 tb_S) 99999999 0 0 0 0 7 1 40 rvAl0 [.inl (59, 59)] rvAw0 132 19068 = some (1476, rvAl0, [], rvAw0, 132, 19068) := rvOk_ok (by decide +kernel)
theorem rvSw_60 : rvRun rvTy rvNf rvTxt [] (fun _ _ _ => none) rvInf (rvFind2 tb_S) 99999999 0 0 0 0 7 1 40 rvAl0 [.inl (60, 60)] rvAw0 132 19068 = some (1476, rvAl0, [], rvAw0, 132, 19068) := rvOk_ok (by decide +kernel)
theorem rvSw_61 : rvRun rvTy rvNf rvTxt [] (fun _ _ _ => none) rvInf (rvFind2 tb_S) 99999999 0 0 0 0 7 1 40 rvAl0 [.inl (61, 61)] rvAw0 132 19068 = some (1476, rvAl0, [], rvAw0, 132, 19068) := rvOk_ok (by decide +kernel)
theorem rvSw_62 : rvRun rvTy rvNf rvTxt [] (fun _ _ _ => none) rvInf (rvFind2 tb_S) 99999999 0 0 0 0 7 1 40 rvAl0 [.inl (62, 62)] rvAw0 132 19068 = some (1476, rvAl0, [], rvAw0, 132, 19068) := rvOk_ok (by decide +kernel)
theorem rvSw_63 : rvRun rvTy rvNf rvTxt [] (fun _ _ _ => none) rvInf (rvFind2 tb_S) 99999999 0 0 0 0 7 1 40 rvAl0 [.inl (63, 63)] rvAw0 132 19068 = some (1476, rvAl0, [], rvAw0, 132, 19068) := rvOk_ok (by decide +kernel)
theorem rvOp_run {sc : List (Int × Int)} {call : Nat → List rvV → rvH → rvO} {pc kc ks : Nat} {al st : List rvV} {aw : rvH} (C : rvCx p s m args meth c code RL 7 D cT ex A false sc) (hcall : ∀ j as aw r, j < 168 → call j as aw = some r → rvMet l D cT ex rvYn rvCd rvInf rvRet j as aw r) (K : rvEnds p l e s m args below meth c Q D cT ex A)
    (h : rvGd (rvRun rvTy rvNf rvTxt sc call rvInf (rvFind2 tb_L) 1476 2048 600002 7302232 84000 7 100 pc al st aw kc ks) = true) : rvG p l e room_1 s m args below meth c Q D cT ex A 7 (pc, al, st, aw, kc, ks) := by
  obtain ⟨al1, aw1, kc1, ks1, he, h1, h2, h3, h4⟩ := rvGd_ok h
  exact rvRun_ok C rvBase_ok (fun _ _ => rfl) rvM_all hcall rvT_L (Nat.le_refl 2048) (Nat.le_refl 600002) (Nat.le_refl 7302232) (Nat.le_refl 84000) (K al1 aw1 kc1 ks1 h1 h2 h3 h4) 100 pc al st aw kc ks he
theorem rvX0_ok : ∀ j as aw r, j < 168 → rvX0 7 j as aw = some r → rvMet l D cT ex rvYn rvCd rvInf rvRet j as aw r := fun j as aw r hj h => rvExec_ok rvBase_ok rvM_all rvT_all (fun _ _ _ _ _ h => by cases h) 100000 7 j as aw r hj h
theorem rvOp_0 (hC : ∀ sc, rvSx ex A s sc → rvCx p s m args meth c code RL 7 D cT ex A false sc) (h6 : va_X (ex 5 0) 6 xs s s.heap ∧ ex 5 0 < s.heap.size ∧ ¬ A (ex 5 0)) (K : rvEnds p l e s m args below meth c Q D cT ex A) : rvG p l e room_1 s m args below meth c Q D cT ex A 7 (40, rvAl0, [.inl (0, 0)], rvAw0, 132, 19068) := by
  refine rvSw hC (rvSw_0) ?_
  exact rvOp_run (hC _ (rvSx6 h6 (rv_any _) (rv_any _) (rv_any _) (rv_any _) (rv_any _))) rvX0_ok K oc_0_0
theorem rvOp_1 (hC : ∀ sc, rvSx ex A s sc → rvCx p s m args meth c code RL 7 D cT ex A false sc) (h6 : va_X (ex 5 0) 6 xs s s.heap ∧ ex 5 0 < s.heap.size ∧ ¬ A (ex 5 0)) (K : rvEnds p l e s m args below meth c Q D cT ex A) : rvG p l e room_1 s m args below meth c Q D cT ex A 7 (40, rvAl0, [.inl (1, 1)], rvAw0, 132, 19068) := by
  refine rvSw hC (rvSw_1) ?_
  rcases (show ((-2147483648) ≤ (xs 1).toInt ∧ (xs 1).toInt ≤ (-1)) ∨ (0 ≤ (xs 1).toInt ∧ (xs 1).toInt ≤ 0) ∨ (1 ≤ (xs 1).toInt ∧ (xs 1).toInt ≤ 2147483647) by have := rv_lo (xs 1); have := rv_hi (xs 1); omega) with ⟨g0a, g0b⟩ | ⟨g0a, g0b⟩ | ⟨g0a, g0b⟩
  · skip
    exact rvOp_run (hC _ (rvSx6 h6 ⟨by show ((-2147483648) : Int) ≤ _; have := rv_lo (xs 1); omega, by show _ ≤ ((-1) : Int); have := rv_hi (xs 1); omega⟩ (rv_any _) (rv_any _) (rv_any _) (rv_any _))) rvX0_ok K oc_1_0
  · skip
    exact rvOp_run (hC _ (rvSx6 h6 ⟨by show (0 : Int) ≤ _; have := rv_lo (xs 1); omega, by show _ ≤ (0 : Int); have := rv_hi (xs 1); omega⟩ (rv_any _) (rv_any _) (rv_any _) (rv_any _))) rvX0_ok K oc_1_1
  · skip
    exact rvOp_run (hC _ (rvSx6 h6 ⟨by show (1 : Int) ≤ _; have := rv_lo (xs 1); omega, by show _ ≤ (2147483647 : Int); have := rv_hi (xs 1); omega⟩ (rv_any _) (rv_any _) (rv_any _) (rv_any _))) rvX0_ok K oc_1_2
theorem rvOp_2 (hC : ∀ sc, rvSx ex A s sc → rvCx p s m args meth c code RL 7 D cT ex A false sc) (h6 : va_X (ex 5 0) 6 xs s s.heap ∧ ex 5 0 < s.heap.size ∧ ¬ A (ex 5 0)) (K : rvEnds p l e s m args below meth c Q D cT ex A) : rvG p l e room_1 s m args below meth c Q D cT ex A 7 (40, rvAl0, [.inl (2, 2)], rvAw0, 132, 19068) := by
  refine rvSw hC (rvSw_2) ?_
  exact rvOp_run (hC _ (rvSx6 h6 (rv_any _) (rv_any _) (rv_any _) (rv_any _) (rv_any _))) rvX0_ok K oc_2_0
theorem rvOp_3 (hC : ∀ sc, rvSx ex A s sc → rvCx p s m args meth c code RL 7 D cT ex A false sc) (h6 : va_X (ex 5 0) 6 xs s s.heap ∧ ex 5 0 < s.heap.size ∧ ¬ A (ex 5 0)) (K : rvEnds p l e s m args below meth c Q D cT ex A) : rvG p l e room_1 s m args below meth c Q D cT ex A 7 (40, rvAl0, [.inl (3, 3)], rvAw0, 132, 19068) := by
  refine rvSw hC (rvSw_3) ?_
  exact rvOp_run (hC _ (rvSx6 h6 (rv_any _) (rv_any _) (rv_any _) (rv_any _) (rv_any _))) rvX0_ok K oc_3_0
theorem rvOp_5 (hC : ∀ sc, rvSx ex A s sc → rvCx p s m args meth c code RL 7 D cT ex A false sc) (h6 : va_X (ex 5 0) 6 xs s s.heap ∧ ex 5 0 < s.heap.size ∧ ¬ A (ex 5 0)) (K : rvEnds p l e s m args below meth c Q D cT ex A) : rvG p l e room_1 s m args below meth c Q D cT ex A 7 (40, rvAl0, [.inl (5, 5)], rvAw0, 132, 19068) := by
  refine rvSw hC (rvSw_5) ?_
  rcases (show ((-2147483648) ≤ (xs 1).toInt ∧ (xs 1).toInt ≤ (-1)) ∨ (0 ≤ (xs 1).toInt ∧ (xs 1).toInt ≤ 2147483647) by have := rv_lo (xs 1); have := rv_hi (xs 1); omega) with ⟨g0a, g0b⟩ | ⟨g0a, g0b⟩
  · skip
    exact rvOp_run (hC _ (rvSx6 h6 ⟨by show ((-2147483648) : Int) ≤ _; have := rv_lo (xs 1); omega, by show _ ≤ ((-1) : Int); have := rv_hi (xs 1); omega⟩ (rv_any _) (rv_any _) (rv_any _) (rv_any _))) rvX0_ok K oc_5_0
  · skip
    exact rvOp_run (hC _ (rvSx6 h6 ⟨by show (0 : Int) ≤ _; have := rv_lo (xs 1); omega, by show _ ≤ (2147483647 : Int); have := rv_hi (xs 1); omega⟩ (rv_any _) (rv_any _) (rv_any _) (rv_any _))) rvX0_ok K oc_5_1
theorem rvOp_6 (hC : ∀ sc, rvSx ex A s sc → rvCx p s m args meth c code RL 7 D cT ex A false sc) (h6 : va_X (ex 5 0) 6 xs s s.heap ∧ ex 5 0 < s.heap.size ∧ ¬ A (ex 5 0)) (K : rvEnds p l e s m args below meth c Q D cT ex A) : rvG p l e room_1 s m args below meth c Q D cT ex A 7 (40, rvAl0, [.inl (6, 6)], rvAw0, 132, 19068) := by
  refine rvSw hC (rvSw_6) ?_
  rcases (show ((-2147483648) ≤ (xs 1).toInt ∧ (xs 1).toInt ≤ (-1)) ∨ (0 ≤ (xs 1).toInt ∧ (xs 1).toInt ≤ 0) ∨ (1 ≤ (xs 1).toInt ∧ (xs 1).toInt ≤ 1) ∨ (2 ≤ (xs 1).toInt ∧ (xs 1).toInt ≤ 2) ∨ (3 ≤ (xs 1).toInt ∧ (xs 1).toInt ≤ 3) ∨ (4 ≤ (xs 1).toInt ∧ (xs 1).toInt ≤ 4) ∨ (5 ≤ (xs 1).toInt ∧ (xs 1).toInt ≤ 2147483647) by have := rv_lo (xs 1); have := rv_hi (xs 1); omega) with ⟨g0a, g0b⟩ | ⟨g0a, g0b⟩ | ⟨g0a, g0b⟩ | ⟨g0a, g0b⟩ | ⟨g0a, g0b⟩ | ⟨g0a, g0b⟩ | ⟨g0a, g0b⟩
  · skip
    exact rvOp_run (hC _ (rvSx6 h6 ⟨by show ((-2147483648) : Int) ≤ _; have := rv_lo (xs 1); omega, by show _ ≤ ((-1) : Int); have := rv_hi (xs 1); omega⟩ (rv_any _) (rv_any _) (rv_any _) (rv_any _))) rvX0_ok K oc_6_0
  · skip
    exact rvOp_run (hC _ (rvSx6 h6 ⟨by show (0 : Int) ≤ _; have := rv_lo (xs 1); omega, by show _ ≤ (0 : Int); have := rv_hi (xs 1); omega⟩ (rv_any _) (rv_any _) (rv_any _) (rv_any _))) rvX0_ok K oc_6_1
  · skip
    exact rvOp_run (hC _ (rvSx6 h6 ⟨by show (1 : Int) ≤ _; have := rv_lo (xs 1); omega, by show _ ≤ (1 : Int); have := rv_hi (xs 1); omega⟩ (rv_any _) (rv_any _) (rv_any _) (rv_any _))) rvX0_ok K oc_6_2
  · skip
    exact rvOp_run (hC _ (rvSx6 h6 ⟨by show (2 : Int) ≤ _; have := rv_lo (xs 1); omega, by show _ ≤ (2 : Int); have := rv_hi (xs 1); omega⟩ (rv_any _) (rv_any _) (rv_any _) (rv_any _))) rvX0_ok K oc_6_3
  · skip
    exact rvOp_run (hC _ (rvSx6 h6 ⟨by show (3 : Int) ≤ _; have := rv_lo (xs 1); omega, by show _ ≤ (3 : Int); have := rv_hi (xs 1); omega⟩ (rv_any _) (rv_any _) (rv_any _) (rv_any _))) rvX0_ok K oc_6_4
  · skip
    exact rvOp_run (hC _ (rvSx6 h6 ⟨by show (4 : Int) ≤ _; have := rv_lo (xs 1); omega, by show _ ≤ (4 : Int); have := rv_hi (xs 1); omega⟩ (rv_any _) (rv_any _) (rv_any _) (rv_any _))) rvX0_ok K oc_6_5
  · skip
    exact rvOp_run (hC _ (rvSx6 h6 ⟨by show (5 : Int) ≤ _; have := rv_lo (xs 1); omega, by show _ ≤ (2147483647 : Int); have := rv_hi (xs 1); omega⟩ (rv_any _) (rv_any _) (rv_any _) (rv_any _))) rvX0_ok K oc_6_6
theorem rvOp_7 (hC : ∀ sc, rvSx ex A s sc → rvCx p s m args meth c code RL 7 D cT ex A false sc) (h6 : va_X (ex 5 0) 6 xs s s.heap ∧ ex 5 0 < s.heap.size ∧ ¬ A (ex 5 0)) (K : rvEnds p l e s m args below meth c Q D cT ex A) : rvG p l e room_1 s m args below meth c Q D cT ex A 7 (40, rvAl0, [.inl (7, 7)], rvAw0, 132, 19068) := by
  refine rvSw hC (rvSw_7) ?_
  rcases (show ((-2147483648) ≤ (xs 1).toInt ∧ (xs 1).toInt ≤ (-1)) ∨ (0 ≤ (xs 1).toInt ∧ (xs 1).toInt ≤ 0) ∨ (1 ≤ (xs 1).toInt ∧ (xs 1).toInt ≤ 1) ∨ (2 ≤ (xs 1).toInt ∧ (xs 1).toInt ≤ 2) ∨ (3 ≤ (xs 1).toInt ∧ (xs 1).toInt ≤ 3) ∨ (4 ≤ (xs 1).toInt ∧ (xs 1).toInt ≤ 4) ∨ (5 ≤ (xs 1).toInt ∧ (xs 1).toInt ≤ 2147483647) by have := rv_lo (xs 1); have := rv_hi (xs 1); omega) with ⟨g0a, g0b⟩ | ⟨g0a, g0b⟩ | ⟨g0a, g0b⟩ | ⟨g0a, g0b⟩ | ⟨g0a, g0b⟩ | ⟨g0a, g0b⟩ | ⟨g0a, g0b⟩
  · skip
    rcases (show ((-2147483648) ≤ (xs 2).toInt ∧ (xs 2).toInt ≤ (-1)) ∨ (0 ≤ (xs 2).toInt ∧ (xs 2).toInt ≤ 2147483647) by have := rv_lo (xs 2); have := rv_hi (xs 2); omega) with ⟨g1a, g1b⟩ | ⟨g1a, g1b⟩
    · skip
      exact rvOp_run (hC _ (rvSx6 h6 ⟨by show ((-2147483648) : Int) ≤ _; have := rv_lo (xs 1); omega, by show _ ≤ ((-1) : Int); have := rv_hi (xs 1); omega⟩ ⟨by show ((-2147483648) : Int) ≤ _; have := rv_lo (xs 2); omega, by show _ ≤ ((-1) : Int); have := rv_hi (xs 2); omega⟩ (rv_any _) (rv_any _) (rv_any _))) rvX0_ok K oc_7_0
    · skip
      exact rvOp_run (hC _ (rvSx6 h6 ⟨by show ((-2147483648) : Int) ≤ _; have := rv_lo (xs 1); omega, by show _ ≤ ((-1) : Int); have := rv_hi (xs 1); omega⟩ ⟨by show (0 : Int) ≤ _; have := rv_lo (xs 2); omega, by show _ ≤ (2147483647 : Int); have := rv_hi (xs 2); omega⟩ (rv_any _) (rv_any _) (rv_any _))) rvX0_ok K oc_7_1
  · skip
    rcases (show ((-2147483648) ≤ (xs 2).toInt ∧ (xs 2).toInt ≤ (-1)) ∨ (0 ≤ (xs 2).toInt ∧ (xs 2).toInt ≤ 2147483647) by have := rv_lo (xs 2); have := rv_hi (xs 2); omega) with ⟨g1a, g1b⟩ | ⟨g1a, g1b⟩
    · skip
      exact rvOp_run (hC _ (rvSx6 h6 ⟨by show (0 : Int) ≤ _; have := rv_lo (xs 1); omega, by show _ ≤ (0 : Int); have := rv_hi (xs 1); omega⟩ ⟨by show ((-2147483648) : Int) ≤ _; have := rv_lo (xs 2); omega, by show _ ≤ ((-1) : Int); have := rv_hi (xs 2); omega⟩ (rv_any _) (rv_any _) (rv_any _))) rvX0_ok K oc_7_2
    · skip
      exact rvOp_run (hC _ (rvSx6 h6 ⟨by show (0 : Int) ≤ _; have := rv_lo (xs 1); omega, by show _ ≤ (0 : Int); have := rv_hi (xs 1); omega⟩ ⟨by show (0 : Int) ≤ _; have := rv_lo (xs 2); omega, by show _ ≤ (2147483647 : Int); have := rv_hi (xs 2); omega⟩ (rv_any _) (rv_any _) (rv_any _))) rvX0_ok K oc_7_3
  · skip
    rcases (show ((-2147483648) ≤ (xs 2).toInt ∧ (xs 2).toInt ≤ (-1)) ∨ (0 ≤ (xs 2).toInt ∧ (xs 2).toInt ≤ 2147483647) by have := rv_lo (xs 2); have := rv_hi (xs 2); omega) with ⟨g1a, g1b⟩ | ⟨g1a, g1b⟩
    · skip
      exact rvOp_run (hC _ (rvSx6 h6 ⟨by show (1 : Int) ≤ _; have := rv_lo (xs 1); omega, by show _ ≤ (1 : Int); have := rv_hi (xs 1); omega⟩ ⟨by show ((-2147483648) : Int) ≤ _; have := rv_lo (xs 2); omega, by show _ ≤ ((-1) : Int); have := rv_hi (xs 2); omega⟩ (rv_any _) (rv_any _) (rv_any _))) rvX0_ok K oc_7_4
    · skip
      exact rvOp_run (hC _ (rvSx6 h6 ⟨by show (1 : Int) ≤ _; have := rv_lo (xs 1); omega, by show _ ≤ (1 : Int); have := rv_hi (xs 1); omega⟩ ⟨by show (0 : Int) ≤ _; have := rv_lo (xs 2); omega, by show _ ≤ (2147483647 : Int); have := rv_hi (xs 2); omega⟩ (rv_any _) (rv_any _) (rv_any _))) rvX0_ok K oc_7_5
  · skip
    rcases (show ((-2147483648) ≤ (xs 2).toInt ∧ (xs 2).toInt ≤ (-1)) ∨ (0 ≤ (xs 2).toInt ∧ (xs 2).toInt ≤ 2147483647) by have := rv_lo (xs 2); have := rv_hi (xs 2); omega) with ⟨g1a, g1b⟩ | ⟨g1a, g1b⟩
    · skip
      exact rvOp_run (hC _ (rvSx6 h6 ⟨by show (2 : Int) ≤ _; have := rv_lo (xs 1); omega, by show _ ≤ (2 : Int); have := rv_hi (xs 1); omega⟩ ⟨by show ((-2147483648) : Int) ≤ _; have := rv_lo (xs 2); omega, by show _ ≤ ((-1) : Int); have := rv_hi (xs 2); omega⟩ (rv_any _) (rv_any _) (rv_any _))) rvX0_ok K oc_7_6
    · skip
      exact rvOp_run (hC _ (rvSx6 h6 ⟨by show (2 : Int) ≤ _; have := rv_lo (xs 1); omega, by show _ ≤ (2 : Int); have := rv_hi (xs 1); omega⟩ ⟨by show (0 : Int) ≤ _; have := rv_lo (xs 2); omega, by show _ ≤ (2147483647 : Int); have := rv_hi (xs 2); omega⟩ (rv_any _) (rv_any _) (rv_any _))) rvX0_ok K oc_7_7
  · skip
    rcases (show ((-2147483648) ≤ (xs 2).toInt ∧ (xs 2).toInt ≤ (-1)) ∨ (0 ≤ (xs 2).toInt ∧ (xs 2).toInt ≤ 2147483647) by have := rv_lo (xs 2); have := rv_hi (xs 2); omega) with ⟨g1a, g1b⟩ | ⟨g1a, g1b⟩
    · skip
      exact rvOp_run (hC _ (rvSx6 h6 ⟨by show (3 : Int) ≤ _; have := rv_lo (xs 1); omega, by show _ ≤ (3 : Int); have := rv_hi (xs 1); omega⟩ ⟨by show ((-2147483648) : Int) ≤ _; have := rv_lo (xs 2); omega, by show _ ≤ ((-1) : Int); have := rv_hi (xs 2); omega⟩ (rv_any _) (rv_any _) (rv_any _))) rvX0_ok K oc_7_8
    · skip
      exact rvOp_run (hC _ (rvSx6 h6 ⟨by show (3 : Int) ≤ _; have := rv_lo (xs 1); omega, by show _ ≤ (3 : Int); have := rv_hi (xs 1); omega⟩ ⟨by show (0 : Int) ≤ _; have := rv_lo (xs 2); omega, by show _ ≤ (2147483647 : Int); have := rv_hi (xs 2); omega⟩ (rv_any _) (rv_any _) (rv_any _))) rvX0_ok K oc_7_9
  · skip
    rcases (show ((-2147483648) ≤ (xs 2).toInt ∧ (xs 2).toInt ≤ (-1)) ∨ (0 ≤ (xs 2).toInt ∧ (xs 2).toInt ≤ 2147483647) by have := rv_lo (xs 2); have := rv_hi (xs 2); omega) with ⟨g1a, g1b⟩ | ⟨g1a, g1b⟩
    · skip
      exact rvOp_run (hC _ (rvSx6 h6 ⟨by show (4 : Int) ≤ _; have := rv_lo (xs 1); omega, by show _ ≤ (4 : Int); have := rv_hi (xs 1); omega⟩ ⟨by show ((-2147483648) : Int) ≤ _; have := rv_lo (xs 2); omega, by show _ ≤ ((-1) : Int); have := rv_hi (xs 2); omega⟩ (rv_any _) (rv_any _) (rv_any _))) rvX0_ok K oc_7_10
    · skip
      exact rvOp_run (hC _ (rvSx6 h6 ⟨by show (4 : Int) ≤ _; have := rv_lo (xs 1); omega, by show _ ≤ (4 : Int); have := rv_hi (xs 1); omega⟩ ⟨by show (0 : Int) ≤ _; have := rv_lo (xs 2); omega, by show _ ≤ (2147483647 : Int); have := rv_hi (xs 2); omega⟩ (rv_any _) (rv_any _) (rv_any _))) rvX0_ok K oc_7_11
  · skip
    rcases (show ((-2147483648) ≤ (xs 2).toInt ∧ (xs 2).toInt ≤ (-1)) ∨ (0 ≤ (xs 2).toInt ∧ (xs 2).toInt ≤ 2147483647) by have := rv_lo (xs 2); have := rv_hi (xs 2); omega) with ⟨g1a, g1b⟩ | ⟨g1a, g1b⟩
    · skip
      exact rvOp_run (hC _ (rvSx6 h6 ⟨by show (5 : Int) ≤ _; have := rv_lo (xs 1); omega, by show _ ≤ (2147483647 : Int); have := rv_hi (xs 1); omega⟩ ⟨by show ((-2147483648) : Int) ≤ _; have := rv_lo (xs 2); omega, by show _ ≤ ((-1) : Int); have := rv_hi (xs 2); omega⟩ (rv_any _) (rv_any _) (rv_any _))) rvX0_ok K oc_7_12
    · skip
      exact rvOp_run (hC _ (rvSx6 h6 ⟨by show (5 : Int) ≤ _; have := rv_lo (xs 1); omega, by show _ ≤ (2147483647 : Int); have := rv_hi (xs 1); omega⟩ ⟨by show (0 : Int) ≤ _; have := rv_lo (xs 2); omega, by show _ ≤ (2147483647 : Int); have := rv_hi (xs 2); omega⟩ (rv_any _) (rv_any _) (rv_any _))) rvX0_ok K oc_7_13
theorem rvOp_8 (hC : ∀ sc, rvSx ex A s sc → rvCx p s m args meth c code RL 7 D cT ex A false sc) (h6 : va_X (ex 5 0) 6 xs s s.heap ∧ ex 5 0 < s.heap.size ∧ ¬ A (ex 5 0)) (K : rvEnds p l e s m args below meth c Q D cT ex A) : rvG p l e room_1 s m args below meth c Q D cT ex A 7 (40, rvAl0, [.inl (8, 8)], rvAw0, 132, 19068) := by
  refine rvSw hC (rvSw_8) ?_
  rcases (show ((-2147483648) ≤ (xs 1).toInt ∧ (xs 1).toInt ≤ (-1)) ∨ (0 ≤ (xs 1).toInt ∧ (xs 1).toInt ≤ 0) ∨ (1 ≤ (xs 1).toInt ∧ (xs 1).toInt ≤ 1) ∨ (2 ≤ (xs 1).toInt ∧ (xs 1).toInt ≤ 2) ∨ (3 ≤ (xs 1).toInt ∧ (xs 1).toInt ≤ 3) ∨ (4 ≤ (xs 1).toInt ∧ (xs 1).toInt ≤ 4) ∨ (5 ≤ (xs 1).toInt ∧ (xs 1).toInt ≤ 2147483647) by have := rv_lo (xs 1); have := rv_hi (xs 1); omega) with ⟨g0a, g0b⟩ | ⟨g0a, g0b⟩ | ⟨g0a, g0b⟩ | ⟨g0a, g0b⟩ | ⟨g0a, g0b⟩ | ⟨g0a, g0b⟩ | ⟨g0a, g0b⟩
  · skip
    rcases (show ((-2147483648) ≤ (xs 2).toInt ∧ (xs 2).toInt ≤ (-1)) ∨ (0 ≤ (xs 2).toInt ∧ (xs 2).toInt ≤ 2147483647) by have := rv_lo (xs 2); have := rv_hi (xs 2); omega) with ⟨g1a, g1b⟩ | ⟨g1a, g1b⟩
    · skip
      exact rvOp_run (hC _ (rvSx6 h6 ⟨by show ((-2147483648) : Int) ≤ _; have := rv_lo (xs 1); omega, by show _ ≤ ((-1) : Int); have := rv_hi (xs 1); omega⟩ ⟨by show ((-2147483648) : Int) ≤ _; have := rv_lo (xs 2); omega, by show _ ≤ ((-1) : Int); have := rv_hi (xs 2); omega⟩ (rv_any _) (rv_any _) (rv_any _))) rvX0_ok K oc_8_0
    · skip
      exact rvOp_run (hC _ (rvSx6 h6 ⟨by show ((-2147483648) : Int) ≤ _; have := rv_lo (xs 1); omega, by show _ ≤ ((-1) : Int); have := rv_hi (xs 1); omega⟩ ⟨by show (0 : Int) ≤ _; have := rv_lo (xs 2); omega, by show _ ≤ (2147483647 : Int); have := rv_hi (xs 2); omega⟩ (rv_any _) (rv_any _) (rv_any _))) rvX0_ok K oc_8_1
  · skip
    rcases (show ((-2147483648) ≤ (xs 2).toInt ∧ (xs 2).toInt ≤ (-1)) ∨ (0 ≤ (xs 2).toInt ∧ (xs 2).toInt ≤ 2147483647) by have := rv_lo (xs 2); have := rv_hi (xs 2); omega) with ⟨g1a, g1b⟩ | ⟨g1a, g1b⟩
    · skip
      exact rvOp_run (hC _ (rvSx6 h6 ⟨by show (0 : Int) ≤ _; have := rv_lo (xs 1); omega, by show _ ≤ (0 : Int); have := rv_hi (xs 1); omega⟩ ⟨by show ((-2147483648) : Int) ≤ _; have := rv_lo (xs 2); omega, by show _ ≤ ((-1) : Int); have := rv_hi (xs 2); omega⟩ (rv_any _) (rv_any _) (rv_any _))) rvX0_ok K oc_8_2
    · skip
      exact rvOp_run (hC _ (rvSx6 h6 ⟨by show (0 : Int) ≤ _; have := rv_lo (xs 1); omega, by show _ ≤ (0 : Int); have := rv_hi (xs 1); omega⟩ ⟨by show (0 : Int) ≤ _; have := rv_lo (xs 2); omega, by show _ ≤ (2147483647 : Int); have := rv_hi (xs 2); omega⟩ (rv_any _) (rv_any _) (rv_any _))) rvX0_ok K oc_8_3
  · skip
    rcases (show ((-2147483648) ≤ (xs 2).toInt ∧ (xs 2).toInt ≤ (-1)) ∨ (0 ≤ (xs 2).toInt ∧ (xs 2).toInt ≤ 2147483647) by have := rv_lo (xs 2); have := rv_hi (xs 2); omega) with ⟨g1a, g1b⟩ | ⟨g1a, g1b⟩
    · skip
      exact rvOp_run (hC _ (rvSx6 h6 ⟨by show (1 : Int) ≤ _; have := rv_lo (xs 1); omega, by show _ ≤ (1 : Int); have := rv_hi (xs 1); omega⟩ ⟨by show ((-2147483648) : Int) ≤ _; have := rv_lo (xs 2); omega, by show _ ≤ ((-1) : Int); have := rv_hi (xs 2); omega⟩ (rv_any _) (rv_any _) (rv_any _))) rvX0_ok K oc_8_4
    · skip
      exact rvOp_run (hC _ (rvSx6 h6 ⟨by show (1 : Int) ≤ _; have := rv_lo (xs 1); omega, by show _ ≤ (1 : Int); have := rv_hi (xs 1); omega⟩ ⟨by show (0 : Int) ≤ _; have := rv_lo (xs 2); omega, by show _ ≤ (2147483647 : Int); have := rv_hi (xs 2); omega⟩ (rv_any _) (rv_any _) (rv_any _))) rvX0_ok K oc_8_5
  · skip
    rcases (show ((-2147483648) ≤ (xs 2).toInt ∧ (xs 2).toInt ≤ (-1)) ∨ (0 ≤ (xs 2).toInt ∧ (xs 2).toInt ≤ 2147483647) by have := rv_lo (xs 2); have := rv_hi (xs 2); omega) with ⟨g1a, g1b⟩ | ⟨g1a, g1b⟩
    · skip
      exact rvOp_run (hC _ (rvSx6 h6 ⟨by show (2 : Int) ≤ _; have := rv_lo (xs 1); omega, by show _ ≤ (2 : Int); have := rv_hi (xs 1); omega⟩ ⟨by show ((-2147483648) : Int) ≤ _; have := rv_lo (xs 2); omega, by show _ ≤ ((-1) : Int); have := rv_hi (xs 2); omega⟩ (rv_any _) (rv_any _) (rv_any _))) rvX0_ok K oc_8_6
    · skip
      exact rvOp_run (hC _ (rvSx6 h6 ⟨by show (2 : Int) ≤ _; have := rv_lo (xs 1); omega, by show _ ≤ (2 : Int); have := rv_hi (xs 1); omega⟩ ⟨by show (0 : Int) ≤ _; have := rv_lo (xs 2); omega, by show _ ≤ (2147483647 : Int); have := rv_hi (xs 2); omega⟩ (rv_any _) (rv_any _) (rv_any _))) rvX0_ok K oc_8_7
  · skip
    rcases (show ((-2147483648) ≤ (xs 2).toInt ∧ (xs 2).toInt ≤ (-1)) ∨ (0 ≤ (xs 2).toInt ∧ (xs 2).toInt ≤ 2147483647) by have := rv_lo (xs 2); have := rv_hi (xs 2); omega) with ⟨g1a, g1b⟩ | ⟨g1a, g1b⟩
    · skip
      exact rvOp_run (hC _ (rvSx6 h6 ⟨by show (3 : Int) ≤ _; have := rv_lo (xs 1); omega, by show _ ≤ (3 : Int); have := rv_hi (xs 1); omega⟩ ⟨by show ((-2147483648) : Int) ≤ _; have := rv_lo (xs 2); omega, by show _ ≤ ((-1) : Int); have := rv_hi (xs 2); omega⟩ (rv_any _) (rv_any _) (rv_any _))) rvX0_ok K oc_8_8
    · skip
      exact rvOp_run (hC _ (rvSx6 h6 ⟨by show (3 : Int) ≤ _; have := rv_lo (xs 1); omega, by show _ ≤ (3 : Int); have := rv_hi (xs 1); omega⟩ ⟨by show (0 : Int) ≤ _; have := rv_lo (xs 2); omega, by show _ ≤ (2147483647 : Int); have := rv_hi (xs 2); omega⟩ (rv_any _) (rv_any _) (rv_any _))) rvX0_ok K oc_8_9
  · skip
    rcases (show ((-2147483648) ≤ (xs 2).toInt ∧ (xs 2).toInt ≤ (-1)) ∨ (0 ≤ (xs 2).toInt ∧ (xs 2).toInt ≤ 2147483647) by have := rv_lo (xs 2); have := rv_hi (xs 2); omega) with ⟨g1a, g1b⟩ | ⟨g1a, g1b⟩
    · skip
      exact rvOp_run (hC _ (rvSx6 h6 ⟨by show (4 : Int) ≤ _; have := rv_lo (xs 1); omega, by show _ ≤ (4 : Int); have := rv_hi (xs 1); omega⟩ ⟨by show ((-2147483648) : Int) ≤ _; have := rv_lo (xs 2); omega, by show _ ≤ ((-1) : Int); have := rv_hi (xs 2); omega⟩ (rv_any _) (rv_any _) (rv_any _))) rvX0_ok K oc_8_10
    · skip
      exact rvOp_run (hC _ (rvSx6 h6 ⟨by show (4 : Int) ≤ _; have := rv_lo (xs 1); omega, by show _ ≤ (4 : Int); have := rv_hi (xs 1); omega⟩ ⟨by show (0 : Int) ≤ _; have := rv_lo (xs 2); omega, by show _ ≤ (2147483647 : Int); have := rv_hi (xs 2); omega⟩ (rv_any _) (rv_any _) (rv_any _))) rvX0_ok K oc_8_11
  · skip
    rcases (show ((-2147483648) ≤ (xs 2).toInt ∧ (xs 2).toInt ≤ (-1)) ∨ (0 ≤ (xs 2).toInt ∧ (xs 2).toInt ≤ 2147483647) by have := rv_lo (xs 2); have := rv_hi (xs 2); omega) with ⟨g1a, g1b⟩ | ⟨g1a, g1b⟩
    · skip
      exact rvOp_run (hC _ (rvSx6 h6 ⟨by show (5 : Int) ≤ _; have := rv_lo (xs 1); omega, by show _ ≤ (2147483647 : Int); have := rv_hi (xs 1); omega⟩ ⟨by show ((-2147483648) : Int) ≤ _; have := rv_lo (xs 2); omega, by show _ ≤ ((-1) : Int); have := rv_hi (xs 2); omega⟩ (rv_any _) (rv_any _) (rv_any _))) rvX0_ok K oc_8_12
    · skip
      exact rvOp_run (hC _ (rvSx6 h6 ⟨by show (5 : Int) ≤ _; have := rv_lo (xs 1); omega, by show _ ≤ (2147483647 : Int); have := rv_hi (xs 1); omega⟩ ⟨by show (0 : Int) ≤ _; have := rv_lo (xs 2); omega, by show _ ≤ (2147483647 : Int); have := rv_hi (xs 2); omega⟩ (rv_any _) (rv_any _) (rv_any _))) rvX0_ok K oc_8_13
theorem rvOp_9 (hC : ∀ sc, rvSx ex A s sc → rvCx p s m args meth c code RL 7 D cT ex A false sc) (h6 : va_X (ex 5 0) 6 xs s s.heap ∧ ex 5 0 < s.heap.size ∧ ¬ A (ex 5 0)) (K : rvEnds p l e s m args below meth c Q D cT ex A) : rvG p l e room_1 s m args below meth c Q D cT ex A 7 (40, rvAl0, [.inl (9, 9)], rvAw0, 132, 19068) := by
  refine rvSw hC (rvSw_9) ?_
  rcases (show ((-2147483648) ≤ (xs 1).toInt ∧ (xs 1).toInt ≤ (-1)) ∨ (0 ≤ (xs 1).toInt ∧ (xs 1).toInt ≤ 0) ∨ (1 ≤ (xs 1).toInt ∧ (xs 1).toInt ≤ 1) ∨ (2 ≤ (xs 1).toInt ∧ (xs 1).toInt ≤ 2) ∨ (3 ≤ (xs 1).toInt ∧ (xs 1).toInt ≤ 3) ∨ (4 ≤ (xs 1).toInt ∧ (xs 1).toInt ≤ 4) ∨ (5 ≤ (xs 1).toInt ∧ (xs 1).toInt ≤ 2147483647) by have := rv_lo (xs 1); have := rv_hi (xs 1); omega) with ⟨g0a, g0b⟩ | ⟨g0a, g0b⟩ | ⟨g0a, g0b⟩ | ⟨g0a, g0b⟩ | ⟨g0a, g0b⟩ | ⟨g0a, g0b⟩ | ⟨g0a, g0b⟩
  · skip
    rcases (show ((-2147483648) ≤ (xs 2).toInt ∧ (xs 2).toInt ≤ (-1)) ∨ (0 ≤ (xs 2).toInt ∧ (xs 2).toInt ≤ 2147483647) by have := rv_lo (xs 2); have := rv_hi (xs 2); omega) with ⟨g1a, g1b⟩ | ⟨g1a, g1b⟩
    · skip
      exact rvOp_run (hC _ (rvSx6 h6 ⟨by show ((-2147483648) : Int) ≤ _; have := rv_lo (xs 1); omega, by show _ ≤ ((-1) : Int); have := rv_hi (xs 1); omega⟩ ⟨by show ((-2147483648) : Int) ≤ _; have := rv_lo (xs 2); omega, by show _ ≤ ((-1) : Int); have := rv_hi (xs 2); omega⟩ (rv_any _) (rv_any _) (rv_any _))) rvX0_ok K oc_9_0
    · skip
      exact rvOp_run (hC _ (rvSx6 h6 ⟨by show ((-2147483648) : Int) ≤ _; have := rv_lo (xs 1); omega, by show _ ≤ ((-1) : Int); have := rv_hi (xs 1); omega⟩ ⟨by show (0 : Int) ≤ _; have := rv_lo (xs 2); omega, by show _ ≤ (2147483647 : Int); have := rv_hi (xs 2); omega⟩ (rv_any _) (rv_any _) (rv_any _))) rvX0_ok K oc_9_1
  · skip
    rcases (show ((-2147483648) ≤ (xs 2).toInt ∧ (xs 2).toInt ≤ (-1)) ∨ (0 ≤ (xs 2).toInt ∧ (xs 2).toInt ≤ 2147483647) by have := rv_lo (xs 2); have := rv_hi (xs 2); omega) with ⟨g1a, g1b⟩ | ⟨g1a, g1b⟩
    · skip
      exact rvOp_run (hC _ (rvSx6 h6 ⟨by show (0 : Int) ≤ _; have := rv_lo (xs 1); omega, by show _ ≤ (0 : Int); have := rv_hi (xs 1); omega⟩ ⟨by show ((-2147483648) : Int) ≤ _; have := rv_lo (xs 2); omega, by show _ ≤ ((-1) : Int); have := rv_hi (xs 2); omega⟩ (rv_any _) (rv_any _) (rv_any _))) rvX0_ok K oc_9_2
    · skip
      exact rvOp_run (hC _ (rvSx6 h6 ⟨by show (0 : Int) ≤ _; have := rv_lo (xs 1); omega, by show _ ≤ (0 : Int); have := rv_hi (xs 1); omega⟩ ⟨by show (0 : Int) ≤ _; have := rv_lo (xs 2); omega, by show _ ≤ (2147483647 : Int); have := rv_hi (xs 2); omega⟩ (rv_any _) (rv_any _) (rv_any _))) rvX0_ok K oc_9_3
  · skip
    rcases (show ((-2147483648) ≤ (xs 2).toInt ∧ (xs 2).toInt ≤ (-1)) ∨ (0 ≤ (xs 2).toInt ∧ (xs 2).toInt ≤ 2147483647) by have := rv_lo (xs 2); have := rv_hi (xs 2); omega) with ⟨g1a, g1b⟩ | ⟨g1a, g1b⟩
    · skip
      exact rvOp_run (hC _ (rvSx6 h6 ⟨by show (1 : Int) ≤ _; have := rv_lo (xs 1); omega, by show _ ≤ (1 : Int); have := rv_hi (xs 1); omega⟩ ⟨by show ((-2147483648) : Int) ≤ _; have := rv_lo (xs 2); omega, by show _ ≤ ((-1) : Int); have := rv_hi (xs 2); omega⟩ (rv_any _) (rv_any _) (rv_any _))) rvX0_ok K oc_9_4
    · skip
      exact rvOp_run (hC _ (rvSx6 h6 ⟨by show (1 : Int) ≤ _; have := rv_lo (xs 1); omega, by show _ ≤ (1 : Int); have := rv_hi (xs 1); omega⟩ ⟨by show (0 : Int) ≤ _; have := rv_lo (xs 2); omega, by show _ ≤ (2147483647 : Int); have := rv_hi (xs 2); omega⟩ (rv_any _) (rv_any _) (rv_any _))) rvX0_ok K oc_9_5
  · skip
    rcases (show ((-2147483648) ≤ (xs 2).toInt ∧ (xs 2).toInt ≤ (-1)) ∨ (0 ≤ (xs 2).toInt ∧ (xs 2).toInt ≤ 2147483647) by have := rv_lo (xs 2); have := rv_hi (xs 2); omega) with ⟨g1a, g1b⟩ | ⟨g1a, g1b⟩
    · skip
      exact rvOp_run (hC _ (rvSx6 h6 ⟨by show (2 : Int) ≤ _; have := rv_lo (xs 1); omega, by show _ ≤ (2 : Int); have := rv_hi (xs 1); omega⟩ ⟨by show ((-2147483648) : Int) ≤ _; have := rv_lo (xs 2); omega, by show _ ≤ ((-1) : Int); have := rv_hi (xs 2); omega⟩ (rv_any _) (rv_any _) (rv_any _))) rvX0_ok K oc_9_6
    · skip
      exact rvOp_run (hC _ (rvSx6 h6 ⟨by show (2 : Int) ≤ _; have := rv_lo (xs 1); omega, by show _ ≤ (2 : Int); have := rv_hi (xs 1); omega⟩ ⟨by show (0 : Int) ≤ _; have := rv_lo (xs 2); omega, by show _ ≤ (2147483647 : Int); have := rv_hi (xs 2); omega⟩ (rv_any _) (rv_any _) (rv_any _))) rvX0_ok K oc_9_7
  · skip
    rcases (show ((-2147483648) ≤ (xs 2).toInt ∧ (xs 2).toInt ≤ (-1)) ∨ (0 ≤ (xs 2).toInt ∧ (xs 2).toInt ≤ 2147483647) by have := rv_lo (xs 2); have := rv_hi (xs 2); omega) with ⟨g1a, g1b⟩ | ⟨g1a, g1b⟩
    · skip
      exact rvOp_run (hC _ (rvSx6 h6 ⟨by show (3 : Int) ≤ _; have := rv_lo (xs 1); omega, by show _ ≤ (3 : Int); have := rv_hi (xs 1); omega⟩ ⟨by show ((-2147483648) : Int) ≤ _; have := rv_lo (xs 2); omega, by show _ ≤ ((-1) : Int); have := rv_hi (xs 2); omega⟩ (rv_any _) (rv_any _) (rv_any _))) rvX0_ok K oc_9_8
    · skip
      exact rvOp_run (hC _ (rvSx6 h6 ⟨by show (3 : Int) ≤ _; have := rv_lo (xs 1); omega, by show _ ≤ (3 : Int); have := rv_hi (xs 1); omega⟩ ⟨by show (0 : Int) ≤ _; have := rv_lo (xs 2); omega, by show _ ≤ (2147483647 : Int); have := rv_hi (xs 2); omega⟩ (rv_any _) (rv_any _) (rv_any _))) rvX0_ok K oc_9_9
  · skip
    rcases (show ((-2147483648) ≤ (xs 2).toInt ∧ (xs 2).toInt ≤ (-1)) ∨ (0 ≤ (xs 2).toInt ∧ (xs 2).toInt ≤ 2147483647) by have := rv_lo (xs 2); have := rv_hi (xs 2); omega) with ⟨g1a, g1b⟩ | ⟨g1a, g1b⟩
    · skip
      exact rvOp_run (hC _ (rvSx6 h6 ⟨by show (4 : Int) ≤ _; have := rv_lo (xs 1); omega, by show _ ≤ (4 : Int); have := rv_hi (xs 1); omega⟩ ⟨by show ((-2147483648) : Int) ≤ _; have := rv_lo (xs 2); omega, by show _ ≤ ((-1) : Int); have := rv_hi (xs 2); omega⟩ (rv_any _) (rv_any _) (rv_any _))) rvX0_ok K oc_9_10
    · skip
      exact rvOp_run (hC _ (rvSx6 h6 ⟨by show (4 : Int) ≤ _; have := rv_lo (xs 1); omega, by show _ ≤ (4 : Int); have := rv_hi (xs 1); omega⟩ ⟨by show (0 : Int) ≤ _; have := rv_lo (xs 2); omega, by show _ ≤ (2147483647 : Int); have := rv_hi (xs 2); omega⟩ (rv_any _) (rv_any _) (rv_any _))) rvX0_ok K oc_9_11
  · skip
    rcases (show ((-2147483648) ≤ (xs 2).toInt ∧ (xs 2).toInt ≤ (-1)) ∨ (0 ≤ (xs 2).toInt ∧ (xs 2).toInt ≤ 2147483647) by have := rv_lo (xs 2); have := rv_hi (xs 2); omega) with ⟨g1a, g1b⟩ | ⟨g1a, g1b⟩
    · skip
      exact rvOp_run (hC _ (rvSx6 h6 ⟨by show (5 : Int) ≤ _; have := rv_lo (xs 1); omega, by show _ ≤ (2147483647 : Int); have := rv_hi (xs 1); omega⟩ ⟨by show ((-2147483648) : Int) ≤ _; have := rv_lo (xs 2); omega, by show _ ≤ ((-1) : Int); have := rv_hi (xs 2); omega⟩ (rv_any _) (rv_any _) (rv_any _))) rvX0_ok K oc_9_12
    · skip
      exact rvOp_run (hC _ (rvSx6 h6 ⟨by show (5 : Int) ≤ _; have := rv_lo (xs 1); omega, by show _ ≤ (2147483647 : Int); have := rv_hi (xs 1); omega⟩ ⟨by show (0 : Int) ≤ _; have := rv_lo (xs 2); omega, by show _ ≤ (2147483647 : Int); have := rv_hi (xs 2); omega⟩ (rv_any _) (rv_any _) (rv_any _))) rvX0_ok K oc_9_13
theorem rvOp_10 (hC : ∀ sc, rvSx ex A s sc → rvCx p s m args meth c code RL 7 D cT ex A false sc) (h6 : va_X (ex 5 0) 6 xs s s.heap ∧ ex 5 0 < s.heap.size ∧ ¬ A (ex 5 0)) (K : rvEnds p l e s m args below meth c Q D cT ex A) : rvG p l e room_1 s m args below meth c Q D cT ex A 7 (40, rvAl0, [.inl (10, 10)], rvAw0, 132, 19068) := by
  refine rvSw hC (rvSw_10) ?_
  rcases (show ((-2147483648) ≤ (xs 1).toInt ∧ (xs 1).toInt ≤ (-1)) ∨ (0 ≤ (xs 1).toInt ∧ (xs 1).toInt ≤ 2147483647) by have := rv_lo (xs 1); have := rv_hi (xs 1); omega) with ⟨g0a, g0b⟩ | ⟨g0a, g0b⟩
  · skip
    exact rvOp_run (hC _ (rvSx6 h6 ⟨by show ((-2147483648) : Int) ≤ _; have := rv_lo (xs 1); omega, by show _ ≤ ((-1) : Int); have := rv_hi (xs 1); omega⟩ (rv_any _) (rv_any _) (rv_any _) (rv_any _))) rvX0_ok K oc_10_0
  · skip
    exact rvOp_run (hC _ (rvSx6 h6 ⟨by show (0 : Int) ≤ _; have := rv_lo (xs 1); omega, by show _ ≤ (2147483647 : Int); have := rv_hi (xs 1); omega⟩ (rv_any _) (rv_any _) (rv_any _) (rv_any _))) rvX0_ok K oc_10_1
theorem rvOp_11 (hC : ∀ sc, rvSx ex A s sc → rvCx p s m args meth c code RL 7 D cT ex A false sc) (h6 : va_X (ex 5 0) 6 xs s s.heap ∧ ex 5 0 < s.heap.size ∧ ¬ A (ex 5 0)) (K : rvEnds p l e s m args below meth c Q D cT ex A) : rvG p l e room_1 s m args below meth c Q D cT ex A 7 (40, rvAl0, [.inl (11, 11)], rvAw0, 132, 19068) := by
  refine rvSw hC (rvSw_11) ?_
  rcases (show ((-2147483648) ≤ (xs 1).toInt ∧ (xs 1).toInt ≤ (-1)) ∨ (0 ≤ (xs 1).toInt ∧ (xs 1).toInt ≤ 0) ∨ (1 ≤ (xs 1).toInt ∧ (xs 1).toInt ≤ 1) ∨ (2 ≤ (xs 1).toInt ∧ (xs 1).toInt ≤ 2) ∨ (3 ≤ (xs 1).toInt ∧ (xs 1).toInt ≤ 3) ∨ (4 ≤ (xs 1).toInt ∧ (xs 1).toInt ≤ 4) ∨ (5 ≤ (xs 1).toInt ∧ (xs 1).toInt ≤ 5) ∨ (6 ≤ (xs 1).toInt ∧ (xs 1).toInt ≤ 2147483647) by have := rv_lo (xs 1); have := rv_hi (xs 1); omega) with ⟨g0a, g0b⟩ | ⟨g0a, g0b⟩ | ⟨g0a, g0b⟩ | ⟨g0a, g0b⟩ | ⟨g0a, g0b⟩ | ⟨g0a, g0b⟩ | ⟨g0a, g0b⟩ | ⟨g0a, g0b⟩
  · skip
    exact rvOp_run (hC _ (rvSx6 h6 ⟨by show ((-2147483648) : Int) ≤ _; have := rv_lo (xs 1); omega, by show _ ≤ ((-1) : Int); have := rv_hi (xs 1); omega⟩ (rv_any _) (rv_any _) (rv_any _) (rv_any _))) rvX0_ok K oc_11_0
  · skip
    exact rvOp_run (hC _ (rvSx6 h6 ⟨by show (0 : Int) ≤ _; have := rv_lo (xs 1); omega, by show _ ≤ (0 : Int); have := rv_hi (xs 1); omega⟩ (rv_any _) (rv_any _) (rv_any _) (rv_any _))) rvX0_ok K oc_11_1
  · skip
    exact rvOp_run (hC _ (rvSx6 h6 ⟨by show (1 : Int) ≤ _; have := rv_lo (xs 1); omega, by show _ ≤ (1 : Int); have := rv_hi (xs 1); omega⟩ (rv_any _) (rv_any _) (rv_any _) (rv_any _))) rvX0_ok K oc_11_2
  · skip
    exact rvOp_run (hC _ (rvSx6 h6 ⟨by show (2 : Int) ≤ _; have := rv_lo (xs 1); omega, by show _ ≤ (2 : Int); have := rv_hi (xs 1); omega⟩ (rv_any _) (rv_any _) (rv_any _) (rv_any _))) rvX0_ok K oc_11_3
  · skip
    exact rvOp_run (hC _ (rvSx6 h6 ⟨by show (3 : Int) ≤ _; have := rv_lo (xs 1); omega, by show _ ≤ (3 : Int); have := rv_hi (xs 1); omega⟩ (rv_any _) (rv_any _) (rv_any _) (rv_any _))) rvX0_ok K oc_11_4
  · skip
    exact rvOp_run (hC _ (rvSx6 h6 ⟨by show (4 : Int) ≤ _; have := rv_lo (xs 1); omega, by show _ ≤ (4 : Int); have := rv_hi (xs 1); omega⟩ (rv_any _) (rv_any _) (rv_any _) (rv_any _))) rvX0_ok K oc_11_5
  · skip
    exact rvOp_run (hC _ (rvSx6 h6 ⟨by show (5 : Int) ≤ _; have := rv_lo (xs 1); omega, by show _ ≤ (5 : Int); have := rv_hi (xs 1); omega⟩ (rv_any _) (rv_any _) (rv_any _) (rv_any _))) rvX0_ok K oc_11_6
  · skip
    exact rvOp_run (hC _ (rvSx6 h6 ⟨by show (6 : Int) ≤ _; have := rv_lo (xs 1); omega, by show _ ≤ (2147483647 : Int); have := rv_hi (xs 1); omega⟩ (rv_any _) (rv_any _) (rv_any _) (rv_any _))) rvX0_ok K oc_11_7
theorem rvOp_12 (hC : ∀ sc, rvSx ex A s sc → rvCx p s m args meth c code RL 7 D cT ex A false sc) (h6 : va_X (ex 5 0) 6 xs s s.heap ∧ ex 5 0 < s.heap.size ∧ ¬ A (ex 5 0)) (K : rvEnds p l e s m args below meth c Q D cT ex A) : rvG p l e room_1 s m args below meth c Q D cT ex A 7 (40, rvAl0, [.inl (12, 12)], rvAw0, 132, 19068) := by
  refine rvSw hC (rvSw_12) ?_
  rcases (show ((-2147483648) ≤ (xs 1).toInt ∧ (xs 1).toInt ≤ (-1)) ∨ (0 ≤ (xs 1).toInt ∧ (xs 1).toInt ≤ 2147483647) by have := rv_lo (xs 1); have := rv_hi (xs 1); omega) with ⟨g0a, g0b⟩ | ⟨g0a, g0b⟩
  · skip
    exact rvOp_run (hC _ (rvSx6 h6 ⟨by show ((-2147483648) : Int) ≤ _; have := rv_lo (xs 1); omega, by show _ ≤ ((-1) : Int); have := rv_hi (xs 1); omega⟩ (rv_any _) (rv_any _) (rv_any _) (rv_any _))) rvX0_ok K oc_12_0
  · skip
    exact rvOp_run (hC _ (rvSx6 h6 ⟨by show (0 : Int) ≤ _; have := rv_lo (xs 1); omega, by show _ ≤ (2147483647 : Int); have := rv_hi (xs 1); omega⟩ (rv_any _) (rv_any _) (rv_any _) (rv_any _))) rvX0_ok K oc_12_1
theorem rvOp_13 (hC : ∀ sc, rvSx ex A s sc → rvCx p s m args meth c code RL 7 D cT ex A false sc) (h6 : va_X (ex 5 0) 6 xs s s.heap ∧ ex 5 0 < s.heap.size ∧ ¬ A (ex 5 0)) (K : rvEnds p l e s m args below meth c Q D cT ex A) : rvG p l e room_1 s m args below meth c Q D cT ex A 7 (40, rvAl0, [.inl (13, 13)], rvAw0, 132, 19068) := by
  refine rvSw hC (rvSw_13) ?_
  rcases (show ((-2147483648) ≤ (xs 1).toInt ∧ (xs 1).toInt ≤ (-1)) ∨ (0 ≤ (xs 1).toInt ∧ (xs 1).toInt ≤ 2147483647) by have := rv_lo (xs 1); have := rv_hi (xs 1); omega) with ⟨g0a, g0b⟩ | ⟨g0a, g0b⟩
  · skip
    exact rvOp_run (hC _ (rvSx6 h6 ⟨by show ((-2147483648) : Int) ≤ _; have := rv_lo (xs 1); omega, by show _ ≤ ((-1) : Int); have := rv_hi (xs 1); omega⟩ (rv_any _) (rv_any _) (rv_any _) (rv_any _))) rvX0_ok K oc_13_0
  · skip
    exact rvOp_run (hC _ (rvSx6 h6 ⟨by show (0 : Int) ≤ _; have := rv_lo (xs 1); omega, by show _ ≤ (2147483647 : Int); have := rv_hi (xs 1); omega⟩ (rv_any _) (rv_any _) (rv_any _) (rv_any _))) rvX0_ok K oc_13_1
theorem rvOp_14 (hC : ∀ sc, rvSx ex A s sc → rvCx p s m args meth c code RL 7 D cT ex A false sc) (h6 : va_X (ex 5 0) 6 xs s s.heap ∧ ex 5 0 < s.heap.size ∧ ¬ A (ex 5 0)) (K : rvEnds p l e s m args below meth c Q D cT ex A) : rvG p l e room_1 s m args below meth c Q D cT ex A 7 (40, rvAl0, [.inl (14, 14)], rvAw0, 132, 19068) := by
  refine rvSw hC (rvSw_14) ?_
  rcases (show ((-2147483648) ≤ (xs 1).toInt ∧ (xs 1).toInt ≤ (-1)) ∨ (0 ≤ (xs 1).toInt ∧ (xs 1).toInt ≤ 2147483647) by have := rv_lo (xs 1); have := rv_hi (xs 1); omega) with ⟨g0a, g0b⟩ | ⟨g0a, g0b⟩
  · skip
    exact rvOp_run (hC _ (rvSx6 h6 ⟨by show ((-2147483648) : Int) ≤ _; have := rv_lo (xs 1); omega, by show _ ≤ ((-1) : Int); have := rv_hi (xs 1); omega⟩ (rv_any _) (rv_any _) (rv_any _) (rv_any _))) rvX0_ok K oc_14_0
  · skip
    exact rvOp_run (hC _ (rvSx6 h6 ⟨by show (0 : Int) ≤ _; have := rv_lo (xs 1); omega, by show _ ≤ (2147483647 : Int); have := rv_hi (xs 1); omega⟩ (rv_any _) (rv_any _) (rv_any _) (rv_any _))) rvX0_ok K oc_14_1
theorem rvOp_15 (hC : ∀ sc, rvSx ex A s sc → rvCx p s m args meth c code RL 7 D cT ex A false sc) (h6 : va_X (ex 5 0) 6 xs s s.heap ∧ ex 5 0 < s.heap.size ∧ ¬ A (ex 5 0)) (K : rvEnds p l e s m args below meth c Q D cT ex A) : rvG p l e room_1 s m args below meth c Q D cT ex A 7 (40, rvAl0, [.inl (15, 15)], rvAw0, 132, 19068) := by
  refine rvSw hC (rvSw_15) ?_
  rcases (show ((-2147483648) ≤ (xs 1).toInt ∧ (xs 1).toInt ≤ (-1)) ∨ (0 ≤ (xs 1).toInt ∧ (xs 1).toInt ≤ 2147483647) by have := rv_lo (xs 1); have := rv_hi (xs 1); omega) with ⟨g0a, g0b⟩ | ⟨g0a, g0b⟩
  · skip
    exact rvOp_run (hC _ (rvSx6 h6 ⟨by show ((-2147483648) : Int) ≤ _; have := rv_lo (xs 1); omega, by show _ ≤ ((-1) : Int); have := rv_hi (xs 1); omega⟩ (rv_any _) (rv_any _) (rv_any _) (rv_any _))) rvX0_ok K oc_15_0
  · skip
    exact rvOp_run (hC _ (rvSx6 h6 ⟨by show (0 : Int) ≤ _; have := rv_lo (xs 1); omega, by show _ ≤ (2147483647 : Int); have := rv_hi (xs 1); omega⟩ (rv_any _) (rv_any _) (rv_any _) (rv_any _))) rvX0_ok K oc_15_1
theorem rvOp_16 (hC : ∀ sc, rvSx ex A s sc → rvCx p s m args meth c code RL 7 D cT ex A false sc) (h6 : va_X (ex 5 0) 6 xs s s.heap ∧ ex 5 0 < s.heap.size ∧ ¬ A (ex 5 0)) (K : rvEnds p l e s m args below meth c Q D cT ex A) : rvG p l e room_1 s m args below meth c Q D cT ex A 7 (40, rvAl0, [.inl (16, 16)], rvAw0, 132, 19068) := by
  refine rvSw hC (rvSw_16) ?_
  rcases (show ((-2147483648) ≤ (xs 1).toInt ∧ (xs 1).toInt ≤ (-1)) ∨ (0 ≤ (xs 1).toInt ∧ (xs 1).toInt ≤ 2147483647) by have := rv_lo (xs 1); have := rv_hi (xs 1); omega) with ⟨g0a, g0b⟩ | ⟨g0a, g0b⟩
  · skip
    exact rvOp_run (hC _ (rvSx6 h6 ⟨by show ((-2147483648) : Int) ≤ _; have := rv_lo (xs 1); omega, by show _ ≤ ((-1) : Int); have := rv_hi (xs 1); omega⟩ (rv_any _) (rv_any _) (rv_any _) (rv_any _))) rvX0_ok K oc_16_0
  · skip
    exact rvOp_run (hC _ (rvSx6 h6 ⟨by show (0 : Int) ≤ _; have := rv_lo (xs 1); omega, by show _ ≤ (2147483647 : Int); have := rv_hi (xs 1); omega⟩ (rv_any _) (rv_any _) (rv_any _) (rv_any _))) rvX0_ok K oc_16_1
theorem rvOp_18 (hC : ∀ sc, rvSx ex A s sc → rvCx p s m args meth c code RL 7 D cT ex A false sc) (h6 : va_X (ex 5 0) 6 xs s s.heap ∧ ex 5 0 < s.heap.size ∧ ¬ A (ex 5 0)) (K : rvEnds p l e s m args below meth c Q D cT ex A) : rvG p l e room_1 s m args below meth c Q D cT ex A 7 (40, rvAl0, [.inl (18, 18)], rvAw0, 132, 19068) := by
  refine rvSw hC (rvSw_18) ?_
  exact rvOp_run (hC _ (rvSx6 h6 (rv_any _) (rv_any _) (rv_any _) (rv_any _) (rv_any _))) rvX0_ok K oc_18_0
theorem rvOp_19 (hC : ∀ sc, rvSx ex A s sc → rvCx p s m args meth c code RL 7 D cT ex A false sc) (h6 : va_X (ex 5 0) 6 xs s s.heap ∧ ex 5 0 < s.heap.size ∧ ¬ A (ex 5 0)) (K : rvEnds p l e s m args below meth c Q D cT ex A) : rvG p l e room_1 s m args below meth c Q D cT ex A 7 (40, rvAl0, [.inl (19, 19)], rvAw0, 132, 19068) := by
  refine rvSw hC (rvSw_19) ?_
  rcases (show ((-2147483648) ≤ (xs 1).toInt ∧ (xs 1).toInt ≤ (-1)) ∨ (0 ≤ (xs 1).toInt ∧ (xs 1).toInt ≤ 2147483647) by have := rv_lo (xs 1); have := rv_hi (xs 1); omega) with ⟨g0a, g0b⟩ | ⟨g0a, g0b⟩
  · skip
    exact rvOp_run (hC _ (rvSx6 h6 ⟨by show ((-2147483648) : Int) ≤ _; have := rv_lo (xs 1); omega, by show _ ≤ ((-1) : Int); have := rv_hi (xs 1); omega⟩ (rv_any _) (rv_any _) (rv_any _) (rv_any _))) rvX0_ok K oc_19_0
  · skip
    exact rvOp_run (hC _ (rvSx6 h6 ⟨by show (0 : Int) ≤ _; have := rv_lo (xs 1); omega, by show _ ≤ (2147483647 : Int); have := rv_hi (xs 1); omega⟩ (rv_any _) (rv_any _) (rv_any _) (rv_any _))) rvX0_ok K oc_19_1
theorem rvOp_20 (hC : ∀ sc, rvSx ex A s sc → rvCx p s m args meth c code RL 7 D cT ex A false sc) (h6 : va_X (ex 5 0) 6 xs s s.heap ∧ ex 5 0 < s.heap.size ∧ ¬ A (ex 5 0)) (K : rvEnds p l e s m args below meth c Q D cT ex A) : rvG p l e room_1 s m args below meth c Q D cT ex A 7 (40, rvAl0, [.inl (20, 20)], rvAw0, 132, 19068) := by
  refine rvSw hC (rvSw_20) ?_
  exact rvOp_run (hC _ (rvSx6 h6 (rv_any _) (rv_any _) (rv_any _) (rv_any _) (rv_any _))) rvX0_ok K oc_20_0
theorem rvOp_21 (hC : ∀ sc, rvSx ex A s sc → rvCx p s m args meth c code RL 7 D cT ex A false sc) (h6 : va_X (ex 5 0) 6 xs s s.heap ∧ ex 5 0 < s.heap.size ∧ ¬ A (ex 5 0)) (K : rvEnds p l e s m args below meth c Q D cT ex A) : rvG p l e room_1 s m args below meth c Q D cT ex A 7 (40, rvAl0, [.inl (21, 21)], rvAw0, 132, 19068) := by
  refine rvSw hC (rvSw_21) ?_
  exact rvOp_run (hC _ (rvSx6 h6 (rv_any _) (rv_any _) (rv_any _) (rv_any _) (rv_any _))) rvX0_ok K oc_21_0
theorem rvOp_22 (hC : ∀ sc, rvSx ex A s sc → rvCx p s m args meth c code RL 7 D cT ex A false sc) (h6 : va_X (ex 5 0) 6 xs s s.heap ∧ ex 5 0 < s.heap.size ∧ ¬ A (ex 5 0)) (K : rvEnds p l e s m args below meth c Q D cT ex A) : rvG p l e room_1 s m args below meth c Q D cT ex A 7 (40, rvAl0, [.inl (22, 22)], rvAw0, 132, 19068) := by
  refine rvSw hC (rvSw_22) ?_
  rcases (show ((-2147483648) ≤ (xs 1).toInt ∧ (xs 1).toInt ≤ (-1)) ∨ (0 ≤ (xs 1).toInt ∧ (xs 1).toInt ≤ 2147483647) by have := rv_lo (xs 1); have := rv_hi (xs 1); omega) with ⟨g0a, g0b⟩ | ⟨g0a, g0b⟩
  · skip
    exact rvOp_run (hC _ (rvSx6 h6 ⟨by show ((-2147483648) : Int) ≤ _; have := rv_lo (xs 1); omega, by show _ ≤ ((-1) : Int); have := rv_hi (xs 1); omega⟩ (rv_any _) (rv_any _) (rv_any _) (rv_any _))) rvX0_ok K oc_22_0
  · skip
    exact rvOp_run (hC _ (rvSx6 h6 ⟨by show (0 : Int) ≤ _; have := rv_lo (xs 1); omega, by show _ ≤ (2147483647 : Int); have := rv_hi (xs 1); omega⟩ (rv_any _) (rv_any _) (rv_any _) (rv_any _))) rvX0_ok K oc_22_1
theorem rvOp_23 (hC : ∀ sc, rvSx ex A s sc → rvCx p s m args meth c code RL 7 D cT ex A false sc) (h6 : va_X (ex 5 0) 6 xs s s.heap ∧ ex 5 0 < s.heap.size ∧ ¬ A (ex 5 0)) (K : rvEnds p l e s m args below meth c Q D cT ex A) : rvG p l e room_1 s m args below meth c Q D cT ex A 7 (40, rvAl0, [.inl (23, 23)], rvAw0, 132, 19068) := by
  refine rvSw hC (rvSw_23) ?_
  exact rvOp_run (hC _ (rvSx6 h6 (rv_any _) (rv_any _) (rv_any _) (rv_any _) (rv_any _))) rvX0_ok K oc_23_0
theorem rvOp_24 (hC : ∀ sc, rvSx ex A s sc → rvCx p s m args meth c code RL 7 D cT ex A false sc) (h6 : va_X (ex 5 0) 6 xs s s.heap ∧ ex 5 0 < s.heap.size ∧ ¬ A (ex 5 0)) (K : rvEnds p l e s m args below meth c Q D cT ex A) : rvG p l e room_1 s m args below meth c Q D cT ex A 7 (40, rvAl0, [.inl (24, 24)], rvAw0, 132, 19068) := by
  refine rvSw hC (rvSw_24) ?_
  rcases (show ((-2147483648) ≤ (xs 1).toInt ∧ (xs 1).toInt ≤ (-1)) ∨ (0 ≤ (xs 1).toInt ∧ (xs 1).toInt ≤ 2147483647) by have := rv_lo (xs 1); have := rv_hi (xs 1); omega) with ⟨g0a, g0b⟩ | ⟨g0a, g0b⟩
  · skip
    exact rvOp_run (hC _ (rvSx6 h6 ⟨by show ((-2147483648) : Int) ≤ _; have := rv_lo (xs 1); omega, by show _ ≤ ((-1) : Int); have := rv_hi (xs 1); omega⟩ (rv_any _) (rv_any _) (rv_any _) (rv_any _))) rvX0_ok K oc_24_0
  · skip
    exact rvOp_run (hC _ (rvSx6 h6 ⟨by show (0 : Int) ≤ _; have := rv_lo (xs 1); omega, by show _ ≤ (2147483647 : Int); have := rv_hi (xs 1); omega⟩ (rv_any _) (rv_any _) (rv_any _) (rv_any _))) rvX0_ok K oc_24_1
theorem rvOp_25 (hC : ∀ sc, rvSx ex A s sc → rvCx p s m args meth c code RL 7 D cT ex A false sc) (h6 : va_X (ex 5 0) 6 xs s s.heap ∧ ex 5 0 < s.heap.size ∧ ¬ A (ex 5 0)) (K : rvEnds p l e s m args below meth c Q D cT ex A) : rvG p l e room_1 s m args below meth c Q D cT ex A 7 (40, rvAl0, [.inl (25, 25)], rvAw0, 132, 19068) := by
  refine rvSw hC (rvSw_25) ?_
  exact rvOp_run (hC _ (rvSx6 h6 (rv_any _) (rv_any _) (rv_any _) (rv_any _) (rv_any _))) rvX0_ok K oc_25_0
theorem rvOp_26 (hC : ∀ sc, rvSx ex A s sc → rvCx p s m args meth c code RL 7 D cT ex A false sc) (h6 : va_X (ex 5 0) 6 xs s s.heap ∧ ex 5 0 < s.heap.size ∧ ¬ A (ex 5 0)) (K : rvEnds p l e s m args below meth c Q D cT ex A) : rvG p l e room_1 s m args below meth c Q D cT ex A 7 (40, rvAl0, [.inl (26, 26)], rvAw0, 132, 19068) := by
  refine rvSw hC (rvSw_26) ?_
  rcases (show ((-2147483648) ≤ (xs 1).toInt ∧ (xs 1).toInt ≤ (-1)) ∨ (0 ≤ (xs 1).toInt ∧ (xs 1).toInt ≤ 2147483647) by have := rv_lo (xs 1); have := rv_hi (xs 1); omega) with ⟨g0a, g0b⟩ | ⟨g0a, g0b⟩
  · skip
    exact rvOp_run (hC _ (rvSx6 h6 ⟨by show ((-2147483648) : Int) ≤ _; have := rv_lo (xs 1); omega, by show _ ≤ ((-1) : Int); have := rv_hi (xs 1); omega⟩ (rv_any _) (rv_any _) (rv_any _) (rv_any _))) rvX0_ok K oc_26_0
  · skip
    exact rvOp_run (hC _ (rvSx6 h6 ⟨by show (0 : Int) ≤ _; have := rv_lo (xs 1); omega, by show _ ≤ (2147483647 : Int); have := rv_hi (xs 1); omega⟩ (rv_any _) (rv_any _) (rv_any _) (rv_any _))) rvX0_ok K oc_26_1
theorem rvOp_27 (hC : ∀ sc, rvSx ex A s sc → rvCx p s m args meth c code RL 7 D cT ex A false sc) (h6 : va_X (ex 5 0) 6 xs s s.heap ∧ ex 5 0 < s.heap.size ∧ ¬ A (ex 5 0)) (K : rvEnds p l e s m args below meth c Q D cT ex A) : rvG p l e room_1 s m args below meth c Q D cT ex A 7 (40, rvAl0, [.inl (27, 27)], rvAw0, 132, 19068) := by
  refine rvSw hC (rvSw_27) ?_
  rcases (show ((-2147483648) ≤ (xs 1).toInt ∧ (xs 1).toInt ≤ (-1)) ∨ (0 ≤ (xs 1).toInt ∧ (xs 1).toInt ≤ 2147483647) by have := rv_lo (xs 1); have := rv_hi (xs 1); omega) with ⟨g0a, g0b⟩ | ⟨g0a, g0b⟩
  · skip
    exact rvOp_run (hC _ (rvSx6 h6 ⟨by show ((-2147483648) : Int) ≤ _; have := rv_lo (xs 1); omega, by show _ ≤ ((-1) : Int); have := rv_hi (xs 1); omega⟩ (rv_any _) (rv_any _) (rv_any _) (rv_any _))) rvX0_ok K oc_27_0
  · skip
    exact rvOp_run (hC _ (rvSx6 h6 ⟨by show (0 : Int) ≤ _; have := rv_lo (xs 1); omega, by show _ ≤ (2147483647 : Int); have := rv_hi (xs 1); omega⟩ (rv_any _) (rv_any _) (rv_any _) (rv_any _))) rvX0_ok K oc_27_1
theorem rvOp_28 (hC : ∀ sc, rvSx ex A s sc → rvCx p s m args meth c code RL 7 D cT ex A false sc) (h6 : va_X (ex 5 0) 6 xs s s.heap ∧ ex 5 0 < s.heap.size ∧ ¬ A (ex 5 0)) (K : rvEnds p l e s m args below meth c Q D cT ex A) : rvG p l e room_1 s m args below meth c Q D cT ex A 7 (40, rvAl0, [.inl (28, 28)], rvAw0, 132, 19068) := by
  refine rvSw hC (rvSw_28) ?_
  rcases (show ((-2147483648) ≤ (xs 1).toInt ∧ (xs 1).toInt ≤ (-1)) ∨ (0 ≤ (xs 1).toInt ∧ (xs 1).toInt ≤ 2147483647) by have := rv_lo (xs 1); have := rv_hi (xs 1); omega) with ⟨g0a, g0b⟩ | ⟨g0a, g0b⟩
  · skip
    exact rvOp_run (hC _ (rvSx6 h6 ⟨by show ((-2147483648) : Int) ≤ _; have := rv_lo (xs 1); omega, by show _ ≤ ((-1) : Int); have := rv_hi (xs 1); omega⟩ (rv_any _) (rv_any _) (rv_any _) (rv_any _))) rvX0_ok K oc_28_0
  · skip
    exact rvOp_run (hC _ (rvSx6 h6 ⟨by show (0 : Int) ≤ _; have := rv_lo (xs 1); omega, by show _ ≤ (2147483647 : Int); have := rv_hi (xs 1); omega⟩ (rv_any _) (rv_any _) (rv_any _) (rv_any _))) rvX0_ok K oc_28_1
theorem rvOp_29 (hC : ∀ sc, rvSx ex A s sc → rvCx p s m args meth c code RL 7 D cT ex A false sc) (h6 : va_X (ex 5 0) 6 xs s s.heap ∧ ex 5 0 < s.heap.size ∧ ¬ A (ex 5 0)) (K : rvEnds p l e s m args below meth c Q D cT ex A) : rvG p l e room_1 s m args below meth c Q D cT ex A 7 (40, rvAl0, [.inl (29, 29)], rvAw0, 132, 19068) := by
  refine rvSw hC (rvSw_29) ?_
  exact rvOp_run (hC _ (rvSx6 h6 (rv_any _) (rv_any _) (rv_any _) (rv_any _) (rv_any _))) rvX0_ok K oc_29_0
theorem rvOp_30 (hC : ∀ sc, rvSx ex A s sc → rvCx p s m args meth c code RL 7 D cT ex A false sc) (h6 : va_X (ex 5 0) 6 xs s s.heap ∧ ex 5 0 < s.heap.size ∧ ¬ A (ex 5 0)) (K : rvEnds p l e s m args below meth c Q D cT ex A) : rvG p l e room_1 s m args below meth c Q D cT ex A 7 (40, rvAl0, [.inl (30, 30)], rvAw0, 132, 19068) := by
  refine rvSw hC (rvSw_30) ?_
  exact rvOp_run (hC _ (rvSx6 h6 (rv_any _) (rv_any _) (rv_any _) (rv_any _) (rv_any _))) rvX0_ok K oc_30_0
theorem rvOp_31 (hC : ∀ sc, rvSx ex A s sc → rvCx p s m args meth c code RL 7 D cT ex A false sc) (h6 : va_X (ex 5 0) 6 xs s s.heap ∧ ex 5 0 < s.heap.size ∧ ¬ A (ex 5 0)) (K : rvEnds p l e s m args below meth c Q D cT ex A) : rvG p l e room_1 s m args below meth c Q D cT ex A 7 (40, rvAl0, [.inl (31, 31)], rvAw0, 132, 19068) := by
  refine rvSw hC (rvSw_31) ?_
  exact rvOp_run (hC _ (rvSx6 h6 (rv_any _) (rv_any _) (rv_any _) (rv_any _) (rv_any _))) rvX0_ok K oc_31_0
theorem rvOp_32 (hC : ∀ sc, rvSx ex A s sc → rvCx p s m args meth c code RL 7 D cT ex A false sc) (h6 : va_X (ex 5 0) 6 xs s s.heap ∧ ex 5 0 < s.heap.size ∧ ¬ A (ex 5 0)) (K : rvEnds p l e s m args below meth c Q D cT ex A) : rvG p l e room_1 s m args below meth c Q D cT ex A 7 (40, rvAl0, [.inl (32, 32)], rvAw0, 132, 19068) := by
  refine rvSw hC (rvSw_32) ?_
  rcases (show ((-2147483648) ≤ (xs 1).toInt ∧ (xs 1).toInt ≤ (-1)) ∨ (0 ≤ (xs 1).toInt ∧ (xs 1).toInt ≤ 2147483647) by have := rv_lo (xs 1); have := rv_hi (xs 1); omega) with ⟨g0a, g0b⟩ | ⟨g0a, g0b⟩
  · skip
    exact rvOp_run (hC _ (rvSx6 h6 ⟨by show ((-2147483648) : Int) ≤ _; have := rv_lo (xs 1); omega, by show _ ≤ ((-1) : Int); have := rv_hi (xs 1); omega⟩ (rv_any _) (rv_any _) (rv_any _) (rv_any _))) rvX0_ok K oc_32_0
  · skip
    exact rvOp_run (hC _ (rvSx6 h6 ⟨by show (0 : Int) ≤ _; have := rv_lo (xs 1); omega, by show _ ≤ (2147483647 : Int); have := rv_hi (xs 1); omega⟩ (rv_any _) (rv_any _) (rv_any _) (rv_any _))) rvX0_ok K oc_32_1
theorem rvOp_33 (hC : ∀ sc, rvSx ex A s sc → rvCx p s m args meth c code RL 7 D cT ex A false sc) (h6 : va_X (ex 5 0) 6 xs s s.heap ∧ ex 5 0 < s.heap.size ∧ ¬ A (ex 5 0)) (K : rvEnds p l e s m args below meth c Q D cT ex A) : rvG p l e room_1 s m args below meth c Q D cT ex A 7 (40, rvAl0, [.inl (33, 33)], rvAw0, 132, 19068) := by
  refine rvSw hC (rvSw_33) ?_
  exact rvOp_run (hC _ (rvSx6 h6 (rv_any _) (rv_any _) (rv_any _) (rv_any _) (rv_any _))) rvX0_ok K oc_33_0
theorem rvOp_34 (hC : ∀ sc, rvSx ex A s sc → rvCx p s m args meth c code RL 7 D cT ex A false sc) (h6 : va_X (ex 5 0) 6 xs s s.heap ∧ ex 5 0 < s.heap.size ∧ ¬ A (ex 5 0)) (K : rvEnds p l e s m args below meth c Q D cT ex A) : rvG p l e room_1 s m args below meth c Q D cT ex A 7 (40, rvAl0, [.inl (34, 34)], rvAw0, 132, 19068) := by
  refine rvSw hC (rvSw_34) ?_
  rcases (show ((-2147483648) ≤ (xs 1).toInt ∧ (xs 1).toInt ≤ (-1)) ∨ (0 ≤ (xs 1).toInt ∧ (xs 1).toInt ≤ 2147483647) by have := rv_lo (xs 1); have := rv_hi (xs 1); omega) with ⟨g0a, g0b⟩ | ⟨g0a, g0b⟩
  · skip
    exact rvOp_run (hC _ (rvSx6 h6 ⟨by show ((-2147483648) : Int) ≤ _; have := rv_lo (xs 1); omega, by show _ ≤ ((-1) : Int); have := rv_hi (xs 1); omega⟩ (rv_any _) (rv_any _) (rv_any _) (rv_any _))) rvX0_ok K oc_34_0
  · skip
    exact rvOp_run (hC _ (rvSx6 h6 ⟨by show (0 : Int) ≤ _; have := rv_lo (xs 1); omega, by show _ ≤ (2147483647 : Int); have := rv_hi (xs 1); omega⟩ (rv_any _) (rv_any _) (rv_any _) (rv_any _))) rvX0_ok K oc_34_1
theorem rvOp_35 (hC : ∀ sc, rvSx ex A s sc → rvCx p s m args meth c code RL 7 D cT ex A false sc) (h6 : va_X (ex 5 0) 6 xs s s.heap ∧ ex 5 0 < s.heap.size ∧ ¬ A (ex 5 0)) (K : rvEnds p l e s m args below meth c Q D cT ex A) : rvG p l e room_1 s m args below meth c Q D cT ex A 7 (40, rvAl0, [.inl (35, 35)], rvAw0, 132, 19068) := by
  refine rvSw hC (rvSw_35) ?_
  rcases (show ((-2147483648) ≤ (xs 1).toInt ∧ (xs 1).toInt ≤ (-1)) ∨ (0 ≤ (xs 1).toInt ∧ (xs 1).toInt ≤ 2147483647) by have := rv_lo (xs 1); have := rv_hi (xs 1); omega) with ⟨g0a, g0b⟩ | ⟨g0a, g0b⟩
  · skip
    exact rvOp_run (hC _ (rvSx6 h6 ⟨by show ((-2147483648) : Int) ≤ _; have := rv_lo (xs 1); omega, by show _ ≤ ((-1) : Int); have := rv_hi (xs 1); omega⟩ (rv_any _) (rv_any _) (rv_any _) (rv_any _))) rvX0_ok K oc_35_0
  · skip
    exact rvOp_run (hC _ (rvSx6 h6 ⟨by show (0 : Int) ≤ _; have := rv_lo (xs 1); omega, by show _ ≤ (2147483647 : Int); have := rv_hi (xs 1); omega⟩ (rv_any _) (rv_any _) (rv_any _) (rv_any _))) rvX0_ok K oc_35_1
theorem rvOp_36 (hC : ∀ sc, rvSx ex A s sc → rvCx p s m args meth c code RL 7 D cT ex A false sc) (h6 : va_X (ex 5 0) 6 xs s s.heap ∧ ex 5 0 < s.heap.size ∧ ¬ A (ex 5 0)) (K : rvEnds p l e s m args below meth c Q D cT ex A) : rvG p l e room_1 s m args below meth c Q D cT ex A 7 (40, rvAl0, [.inl (36, 36)], rvAw0, 132, 19068) := by
  refine rvSw hC (rvSw_36) ?_
  rcases (show ((-2147483648) ≤ (xs 1).toInt ∧ (xs 1).toInt ≤ 0) ∨ (1 ≤ (xs 1).toInt ∧ (xs 1).toInt ≤ 60) ∨ (61 ≤ (xs 1).toInt ∧ (xs 1).toInt ≤ 2147483647) by have := rv_lo (xs 1); have := rv_hi (xs 1); omega) with ⟨g0a, g0b⟩ | ⟨g0a, g0b⟩ | ⟨g0a, g0b⟩
  · skip
    exact rvOp_run (hC _ (rvSx6 h6 ⟨by show ((-2147483648) : Int) ≤ _; have := rv_lo (xs 1); omega, by show _ ≤ (0 : Int); have := rv_hi (xs 1); omega⟩ (rv_any _) (rv_any _) (rv_any _) (rv_any _))) rvX0_ok K oc_36_0
  · skip
    exact rvOp_run (hC _ (rvSx6 h6 ⟨by show (1 : Int) ≤ _; have := rv_lo (xs 1); omega, by show _ ≤ (60 : Int); have := rv_hi (xs 1); omega⟩ (rv_any _) (rv_any _) (rv_any _) (rv_any _))) rvX0_ok K oc_36_1
  · skip
    exact rvOp_run (hC _ (rvSx6 h6 ⟨by show (61 : Int) ≤ _; have := rv_lo (xs 1); omega, by show _ ≤ (2147483647 : Int); have := rv_hi (xs 1); omega⟩ (rv_any _) (rv_any _) (rv_any _) (rv_any _))) rvX0_ok K oc_36_2
theorem rvOp_37 (hC : ∀ sc, rvSx ex A s sc → rvCx p s m args meth c code RL 7 D cT ex A false sc) (h6 : va_X (ex 5 0) 6 xs s s.heap ∧ ex 5 0 < s.heap.size ∧ ¬ A (ex 5 0)) (K : rvEnds p l e s m args below meth c Q D cT ex A) : rvG p l e room_1 s m args below meth c Q D cT ex A 7 (40, rvAl0, [.inl (37, 37)], rvAw0, 132, 19068) := by
  refine rvSw hC (rvSw_37) ?_
  rcases (show ((-2147483648) ≤ (xs 1).toInt ∧ (xs 1).toInt ≤ (-1)) ∨ (0 ≤ (xs 1).toInt ∧ (xs 1).toInt ≤ 2147483647) by have := rv_lo (xs 1); have := rv_hi (xs 1); omega) with ⟨g0a, g0b⟩ | ⟨g0a, g0b⟩
  · skip
    exact rvOp_run (hC _ (rvSx6 h6 ⟨by show ((-2147483648) : Int) ≤ _; have := rv_lo (xs 1); omega, by show _ ≤ ((-1) : Int); have := rv_hi (xs 1); omega⟩ (rv_any _) (rv_any _) (rv_any _) (rv_any _))) rvX0_ok K oc_37_0
  · skip
    exact rvOp_run (hC _ (rvSx6 h6 ⟨by show (0 : Int) ≤ _; have := rv_lo (xs 1); omega, by show _ ≤ (2147483647 : Int); have := rv_hi (xs 1); omega⟩ (rv_any _) (rv_any _) (rv_any _) (rv_any _))) rvX0_ok K oc_37_1
theorem rvOp_38 (hC : ∀ sc, rvSx ex A s sc → rvCx p s m args meth c code RL 7 D cT ex A false sc) (h6 : va_X (ex 5 0) 6 xs s s.heap ∧ ex 5 0 < s.heap.size ∧ ¬ A (ex 5 0)) (K : rvEnds p l e s m args below meth c Q D cT ex A) : rvG p l e room_1 s m args below meth c Q D cT ex A 7 (40, rvAl0, [.inl (38, 38)], rvAw0, 132, 19068) := by
  refine rvSw hC (rvSw_38) ?_
  rcases (show ((-2147483648) ≤ (xs 1).toInt ∧ (xs 1).toInt ≤ (-1)) ∨ (0 ≤ (xs 1).toInt ∧ (xs 1).toInt ≤ 0) ∨ (1 ≤ (xs 1).toInt ∧ (xs 1).toInt ≤ 1) ∨ (2 ≤ (xs 1).toInt ∧ (xs 1).toInt ≤ 2147483647) by have := rv_lo (xs 1); have := rv_hi (xs 1); omega) with ⟨g0a, g0b⟩ | ⟨g0a, g0b⟩ | ⟨g0a, g0b⟩ | ⟨g0a, g0b⟩
  · skip
    exact rvOp_run (hC _ (rvSx6 h6 ⟨by show ((-2147483648) : Int) ≤ _; have := rv_lo (xs 1); omega, by show _ ≤ ((-1) : Int); have := rv_hi (xs 1); omega⟩ (rv_any _) (rv_any _) (rv_any _) (rv_any _))) rvX0_ok K oc_38_0
  · skip
    exact rvOp_run (hC _ (rvSx6 h6 ⟨by show (0 : Int) ≤ _; have := rv_lo (xs 1); omega, by show _ ≤ (0 : Int); have := rv_hi (xs 1); omega⟩ (rv_any _) (rv_any _) (rv_any _) (rv_any _))) rvX0_ok K oc_38_1
  · skip
    exact rvOp_run (hC _ (rvSx6 h6 ⟨by show (1 : Int) ≤ _; have := rv_lo (xs 1); omega, by show _ ≤ (1 : Int); have := rv_hi (xs 1); omega⟩ (rv_any _) (rv_any _) (rv_any _) (rv_any _))) rvX0_ok K oc_38_2
  · skip
    exact rvOp_run (hC _ (rvSx6 h6 ⟨by show (2 : Int) ≤ _; have := rv_lo (xs 1); omega, by show _ ≤ (2147483647 : Int); have := rv_hi (xs 1); omega⟩ (rv_any _) (rv_any _) (rv_any _) (rv_any _))) rvX0_ok K oc_38_3
theorem rvOp_39 (hC : ∀ sc, rvSx ex A s sc → rvCx p s m args meth c code RL 7 D cT ex A false sc) (h6 : va_X (ex 5 0) 6 xs s s.heap ∧ ex 5 0 < s.heap.size ∧ ¬ A (ex 5 0)) (K : rvEnds p l e s m args below meth c Q D cT ex A) : rvG p l e room_1 s m args below meth c Q D cT ex A 7 (40, rvAl0, [.inl (39, 39)], rvAw0, 132, 19068) := by
  refine rvSw hC (rvSw_39) ?_
  rcases (show ((-2147483648) ≤ (xs 1).toInt ∧ (xs 1).toInt ≤ (-1)) ∨ (0 ≤ (xs 1).toInt ∧ (xs 1).toInt ≤ 3) ∨ (4 ≤ (xs 1).toInt ∧ (xs 1).toInt ≤ 2147483647) by have := rv_lo (xs 1); have := rv_hi (xs 1); omega) with ⟨g0a, g0b⟩ | ⟨g0a, g0b⟩ | ⟨g0a, g0b⟩
  · skip
    exact rvOp_run (hC _ (rvSx6 h6 ⟨by show ((-2147483648) : Int) ≤ _; have := rv_lo (xs 1); omega, by show _ ≤ ((-1) : Int); have := rv_hi (xs 1); omega⟩ (rv_any _) (rv_any _) (rv_any _) (rv_any _))) rvX0_ok K oc_39_0
  · skip
    exact rvOp_run (hC _ (rvSx6 h6 ⟨by show (0 : Int) ≤ _; have := rv_lo (xs 1); omega, by show _ ≤ (3 : Int); have := rv_hi (xs 1); omega⟩ (rv_any _) (rv_any _) (rv_any _) (rv_any _))) rvX0_ok K oc_39_1
  · skip
    exact rvOp_run (hC _ (rvSx6 h6 ⟨by show (4 : Int) ≤ _; have := rv_lo (xs 1); omega, by show _ ≤ (2147483647 : Int); have := rv_hi (xs 1); omega⟩ (rv_any _) (rv_any _) (rv_any _) (rv_any _))) rvX0_ok K oc_39_2
theorem rvOp_40 (hC : ∀ sc, rvSx ex A s sc → rvCx p s m args meth c code RL 7 D cT ex A false sc) (h6 : va_X (ex 5 0) 6 xs s s.heap ∧ ex 5 0 < s.heap.size ∧ ¬ A (ex 5 0)) (K : rvEnds p l e s m args below meth c Q D cT ex A) : rvG p l e room_1 s m args below meth c Q D cT ex A 7 (40, rvAl0, [.inl (40, 40)], rvAw0, 132, 19068) := by
  refine rvSw hC (rvSw_40) ?_
  exact rvOp_run (hC _ (rvSx6 h6 (rv_any _) (rv_any _) (rv_any _) (rv_any _) (rv_any _))) rvX0_ok K oc_40_0
theorem rvOp_41 (hC : ∀ sc, rvSx ex A s sc → rvCx p s m args meth c code RL 7 D cT ex A false sc) (h6 : va_X (ex 5 0) 6 xs s s.heap ∧ ex 5 0 < s.heap.size ∧ ¬ A (ex 5 0)) (K : rvEnds p l e s m args below meth c Q D cT ex A) : rvG p l e room_1 s m args below meth c Q D cT ex A 7 (40, rvAl0, [.inl (41, 41)], rvAw0, 132, 19068) := by
  refine rvSw hC (rvSw_41) ?_
  rcases (show ((-2147483648) ≤ (xs 1).toInt ∧ (xs 1).toInt ≤ (-2)) ∨ ((-1) ≤ (xs 1).toInt ∧ (xs 1).toInt ≤ 2147483647) by have := rv_lo (xs 1); have := rv_hi (xs 1); omega) with ⟨g0a, g0b⟩ | ⟨g0a, g0b⟩
  · skip
    exact rvOp_run (hC _ (rvSx6 h6 ⟨by show ((-2147483648) : Int) ≤ _; have := rv_lo (xs 1); omega, by show _ ≤ ((-2) : Int); have := rv_hi (xs 1); omega⟩ (rv_any _) (rv_any _) (rv_any _) (rv_any _))) rvX0_ok K oc_41_0
  · skip
    exact rvOp_run (hC _ (rvSx6 h6 ⟨by show ((-1) : Int) ≤ _; have := rv_lo (xs 1); omega, by show _ ≤ (2147483647 : Int); have := rv_hi (xs 1); omega⟩ (rv_any _) (rv_any _) (rv_any _) (rv_any _))) rvX0_ok K oc_41_1
theorem rvOp_42 (hC : ∀ sc, rvSx ex A s sc → rvCx p s m args meth c code RL 7 D cT ex A false sc) (h6 : va_X (ex 5 0) 6 xs s s.heap ∧ ex 5 0 < s.heap.size ∧ ¬ A (ex 5 0)) (K : rvEnds p l e s m args below meth c Q D cT ex A) : rvG p l e room_1 s m args below meth c Q D cT ex A 7 (40, rvAl0, [.inl (42, 42)], rvAw0, 132, 19068) := by
  refine rvSw hC (rvSw_42) ?_
  rcases (show ((-2147483648) ≤ (xs 1).toInt ∧ (xs 1).toInt ≤ (-1)) ∨ (0 ≤ (xs 1).toInt ∧ (xs 1).toInt ≤ 0) ∨ (1 ≤ (xs 1).toInt ∧ (xs 1).toInt ≤ 1) ∨ (2 ≤ (xs 1).toInt ∧ (xs 1).toInt ≤ 2147483647) by have := rv_lo (xs 1); have := rv_hi (xs 1); omega) with ⟨g0a, g0b⟩ | ⟨g0a, g0b⟩ | ⟨g0a, g0b⟩ | ⟨g0a, g0b⟩
  · skip
    exact rvOp_run (hC _ (rvSx6 h6 ⟨by show ((-2147483648) : Int) ≤ _; have := rv_lo (xs 1); omega, by show _ ≤ ((-1) : Int); have := rv_hi (xs 1); omega⟩ (rv_any _) (rv_any _) (rv_any _) (rv_any _))) rvX0_ok K oc_42_0
  · skip
    exact rvOp_run (hC _ (rvSx6 h6 ⟨by show (0 : Int) ≤ _; have := rv_lo (xs 1); omega, by show _ ≤ (0 : Int); have := rv_hi (xs 1); omega⟩ (rv_any _) (rv_any _) (rv_any _) (rv_any _))) rvX0_ok K oc_42_1
  · skip
    exact rvOp_run (hC _ (rvSx6 h6 ⟨by show (1 : Int) ≤ _; have := rv_lo (xs 1); omega, by show _ ≤ (1 : Int); have := rv_hi (xs 1); omega⟩ (rv_any _) (rv_any _) (rv_any _) (rv_any _))) rvX0_ok K oc_42_2
  · skip
    exact rvOp_run (hC _ (rvSx6 h6 ⟨by show (2 : Int) ≤ _; have := rv_lo (xs 1); omega, by show _ ≤ (2147483647 : Int); have := rv_hi (xs 1); omega⟩ (rv_any _) (rv_any _) (rv_any _) (rv_any _))) rvX0_ok K oc_42_3
theorem rvOp_43 (hC : ∀ sc, rvSx ex A s sc → rvCx p s m args meth c code RL 7 D cT ex A false sc) (h6 : va_X (ex 5 0) 6 xs s s.heap ∧ ex 5 0 < s.heap.size ∧ ¬ A (ex 5 0)) (K : rvEnds p l e s m args below meth c Q D cT ex A) : rvG p l e room_1 s m args below meth c Q D cT ex A 7 (40, rvAl0, [.inl (43, 43)], rvAw0, 132, 19068) := by
  refine rvSw hC (rvSw_43) ?_
  rcases (show ((-2147483648) ≤ (xs 1).toInt ∧ (xs 1).toInt ≤ (-1)) ∨ (0 ≤ (xs 1).toInt ∧ (xs 1).toInt ≤ 0) ∨ (1 ≤ (xs 1).toInt ∧ (xs 1).toInt ≤ 1) ∨ (2 ≤ (xs 1).toInt ∧ (xs 1).toInt ≤ 2147483647) by have := rv_lo (xs 1); have := rv_hi (xs 1); omega) with ⟨g0a, g0b⟩ | ⟨g0a, g0b⟩ | ⟨g0a, g0b⟩ | ⟨g0a, g0b⟩
  · skip
    exact rvOp_run (hC _ (rvSx6 h6 ⟨by show ((-2147483648) : Int) ≤ _; have := rv_lo (xs 1); omega, by show _ ≤ ((-1) : Int); have := rv_hi (xs 1); omega⟩ (rv_any _) (rv_any _) (rv_any _) (rv_any _))) rvX0_ok K oc_43_0
  · skip
    exact rvOp_run (hC _ (rvSx6 h6 ⟨by show (0 : Int) ≤ _; have := rv_lo (xs 1); omega, by show _ ≤ (0 : Int); have := rv_hi (xs 1); omega⟩ (rv_any _) (rv_any _) (rv_any _) (rv_any _))) rvX0_ok K oc_43_1
  · skip
    exact rvOp_run (hC _ (rvSx6 h6 ⟨by show (1 : Int) ≤ _; have := rv_lo (xs 1); omega, by show _ ≤ (1 : Int); have := rv_hi (xs 1); omega⟩ (rv_any _) (rv_any _) (rv_any _) (rv_any _))) rvX0_ok K oc_43_2
  · skip
    exact rvOp_run (hC _ (rvSx6 h6 ⟨by show (2 : Int) ≤ _; have := rv_lo (xs 1); omega, by show _ ≤ (2147483647 : Int); have := rv_hi (xs 1); omega⟩ (rv_any _) (rv_any _) (rv_any _) (rv_any _))) rvX0_ok K oc_43_3
theorem rvOp_44 (hC : ∀ sc, rvSx ex A s sc → rvCx p s m args meth c code RL 7 D cT ex A false sc) (h6 : va_X (ex 5 0) 6 xs s s.heap ∧ ex 5 0 < s.heap.size ∧ ¬ A (ex 5 0)) (K : rvEnds p l e s m args below meth c Q D cT ex A) : rvG p l e room_1 s m args below meth c Q D cT ex A 7 (40, rvAl0, [.inl (44, 44)], rvAw0, 132, 19068) := by
  refine rvSw hC (rvSw_44) ?_
  rcases (show ((-2147483648) ≤ (xs 1).toInt ∧ (xs 1).toInt ≤ (-1)) ∨ (0 ≤ (xs 1).toInt ∧ (xs 1).toInt ≤ 0) ∨ (1 ≤ (xs 1).toInt ∧ (xs 1).toInt ≤ 1) ∨ (2 ≤ (xs 1).toInt ∧ (xs 1).toInt ≤ 2) ∨ (3 ≤ (xs 1).toInt ∧ (xs 1).toInt ≤ 3) ∨ (4 ≤ (xs 1).toInt ∧ (xs 1).toInt ≤ 4) ∨ (5 ≤ (xs 1).toInt ∧ (xs 1).toInt ≤ 5) ∨ (6 ≤ (xs 1).toInt ∧ (xs 1).toInt ≤ 2147483647) by have := rv_lo (xs 1); have := rv_hi (xs 1); omega) with ⟨g0a, g0b⟩ | ⟨g0a, g0b⟩ | ⟨g0a, g0b⟩ | ⟨g0a, g0b⟩ | ⟨g0a, g0b⟩ | ⟨g0a, g0b⟩ | ⟨g0a, g0b⟩ | ⟨g0a, g0b⟩
  · skip
    exact rvOp_run (hC _ (rvSx6 h6 ⟨by show ((-2147483648) : Int) ≤ _; have := rv_lo (xs 1); omega, by show _ ≤ ((-1) : Int); have := rv_hi (xs 1); omega⟩ (rv_any _) (rv_any _) (rv_any _) (rv_any _))) rvX0_ok K oc_44_0
  · skip
    exact rvOp_run (hC _ (rvSx6 h6 ⟨by show (0 : Int) ≤ _; have := rv_lo (xs 1); omega, by show _ ≤ (0 : Int); have := rv_hi (xs 1); omega⟩ (rv_any _) (rv_any _) (rv_any _) (rv_any _))) rvX0_ok K oc_44_1
  · skip
    exact rvOp_run (hC _ (rvSx6 h6 ⟨by show (1 : Int) ≤ _; have := rv_lo (xs 1); omega, by show _ ≤ (1 : Int); have := rv_hi (xs 1); omega⟩ (rv_any _) (rv_any _) (rv_any _) (rv_any _))) rvX0_ok K oc_44_2
  · skip
    exact rvOp_run (hC _ (rvSx6 h6 ⟨by show (2 : Int) ≤ _; have := rv_lo (xs 1); omega, by show _ ≤ (2 : Int); have := rv_hi (xs 1); omega⟩ (rv_any _) (rv_any _) (rv_any _) (rv_any _))) rvX0_ok K oc_44_3
  · skip
    exact rvOp_run (hC _ (rvSx6 h6 ⟨by show (3 : Int) ≤ _; have := rv_lo (xs 1); omega, by show _ ≤ (3 : Int); have := rv_hi (xs 1); omega⟩ (rv_any _) (rv_any _) (rv_any _) (rv_any _))) rvX0_ok K oc_44_4
  · skip
    exact rvOp_run (hC _ (rvSx6 h6 ⟨by show (4 : Int) ≤ _; have := rv_lo (xs 1); omega, by show _ ≤ (4 : Int); have := rv_hi (xs 1); omega⟩ (rv_any _) (rv_any _) (rv_any _) (rv_any _))) rvX0_ok K oc_44_5
  · skip
    exact rvOp_run (hC _ (rvSx6 h6 ⟨by show (5 : Int) ≤ _; have := rv_lo (xs 1); omega, by show _ ≤ (5 : Int); have := rv_hi (xs 1); omega⟩ (rv_any _) (rv_any _) (rv_any _) (rv_any _))) rvX0_ok K oc_44_6
  · skip
    exact rvOp_run (hC _ (rvSx6 h6 ⟨by show (6 : Int) ≤ _; have := rv_lo (xs 1); omega, by show _ ≤ (2147483647 : Int); have := rv_hi (xs 1); omega⟩ (rv_any _) (rv_any _) (rv_any _) (rv_any _))) rvX0_ok K oc_44_7
theorem rvOp_45 (hC : ∀ sc, rvSx ex A s sc → rvCx p s m args meth c code RL 7 D cT ex A false sc) (h6 : va_X (ex 5 0) 6 xs s s.heap ∧ ex 5 0 < s.heap.size ∧ ¬ A (ex 5 0)) (K : rvEnds p l e s m args below meth c Q D cT ex A) : rvG p l e room_1 s m args below meth c Q D cT ex A 7 (40, rvAl0, [.inl (45, 45)], rvAw0, 132, 19068) := by
  refine rvSw hC (rvSw_45) ?_
  exact rvOp_run (hC _ (rvSx6 h6 (rv_any _) (rv_any _) (rv_any _) (rv_any _) (rv_any _))) rvX0_ok K oc_45_0
theorem rvOp_46 (hC : ∀ sc, rvSx ex A s sc → rvCx p s m args meth c code RL 7 D cT ex A false sc) (h6 : va_X (ex 5 0) 6 xs s s.heap ∧ ex 5 0 < s.heap.size ∧ ¬ A (ex 5 0)) (K : rvEnds p l e s m args below meth c Q D cT ex A) : rvG p l e room_1 s m args below meth c Q D cT ex A 7 (40, rvAl0, [.inl (46, 46)], rvAw0, 132, 19068) := by
  refine rvSw hC (rvSw_46) ?_
  exact rvOp_run (hC _ (rvSx6 h6 (rv_any _) (rv_any _) (rv_any _) (rv_any _) (rv_any _))) rvX0_ok K oc_46_0
theorem rvOp_47 (hC : ∀ sc, rvSx ex A s sc → rvCx p s m args meth c code RL 7 D cT ex A false sc) (h6 : va_X (ex 5 0) 6 xs s s.heap ∧ ex 5 0 < s.heap.size ∧ ¬ A (ex 5 0)) (K : rvEnds p l e s m args below meth c Q D cT ex A) : rvG p l e room_1 s m args below meth c Q D cT ex A 7 (40, rvAl0, [.inl (47, 47)], rvAw0, 132, 19068) := by
  refine rvSw hC (rvSw_47) ?_
  exact rvOp_run (hC _ (rvSx6 h6 (rv_any _) (rv_any _) (rv_any _) (rv_any _) (rv_any _))) rvX0_ok K oc_47_0
theorem rvOp_48 (hC : ∀ sc, rvSx ex A s sc → rvCx p s m args meth c code RL 7 D cT ex A false sc) (h6 : va_X (ex 5 0) 6 xs s s.heap ∧ ex 5 0 < s.heap.size ∧ ¬ A (ex 5 0)) (K : rvEnds p l e s m args below meth c Q D cT ex A) : rvG p l e room_1 s m args below meth c Q D cT ex A 7 (40, rvAl0, [.inl (48, 48)], rvAw0, 132, 19068) := by
  refine rvSw hC (rvSw_48) ?_
  exact rvOp_run (hC _ (rvSx6 h6 (rv_any _) (rv_any _) (rv_any _) (rv_any _) (rv_any _))) rvX0_ok K oc_48_0
theorem rvOp_49 (hC : ∀ sc, rvSx ex A s sc → rvCx p s m args meth c code RL 7 D cT ex A false sc) (h6 : va_X (ex 5 0) 6 xs s s.heap ∧ ex 5 0 < s.heap.size ∧ ¬ A (ex 5 0)) (K : rvEnds p l e s m args below meth c Q D cT ex A) : rvG p l e room_1 s m args below meth c Q D cT ex A 7 (40, rvAl0, [.inl (49, 49)], rvAw0, 132, 19068) := by
  refine rvSw hC (rvSw_49) ?_
  exact rvOp_run (hC _ (rvSx6 h6 (rv_any _) (rv_any _) (rv_any _) (rv_any _) (rv_any _))) rvX0_ok K oc_49_0
theorem rvOp_50 (hC : ∀ sc, rvSx ex A s sc → rvCx p s m args meth c code RL 7 D cT ex A false sc) (h6 : va_X (ex 5 0) 6 xs s s.heap ∧ ex 5 0 < s.heap.size ∧ ¬ A (ex 5 0)) (K : rvEnds p l e s m args below meth c Q D cT ex A) : rvG p l e room_1 s m args below meth c Q D cT ex A 7 (40, rvAl0, [.inl (50, 50)], rvAw0, 132, 19068) := by
  refine rvSw hC (rvSw_50) ?_
  exact rvOp_run (hC _ (rvSx6 h6 (rv_any _) (rv_any _) (rv_any _) (rv_any _) (rv_any _))) rvX0_ok K oc_50_0
theorem rvOp_51 (hC : ∀ sc, rvSx ex A s sc → rvCx p s m args meth c code RL 7 D cT ex A false sc) (h6 : va_X (ex 5 0) 6 xs s s.heap ∧ ex 5 0 < s.heap.size ∧ ¬ A (ex 5 0)) (K : rvEnds p l e s m args below meth c Q D cT ex A) : rvG p l e room_1 s m args below meth c Q D cT ex A 7 (40, rvAl0, [.inl (51, 51)], rvAw0, 132, 19068) := by
  refine rvSw hC (rvSw_51) ?_
  exact rvOp_run (hC _ (rvSx6 h6 (rv_any _) (rv_any _) (rv_any _) (rv_any _) (rv_any _))) rvX0_ok K oc_51_0
theorem rvOp_52 (hC : ∀ sc, rvSx ex A s sc → rvCx p s m args meth c code RL 7 D cT ex A false sc) (h6 : va_X (ex 5 0) 6 xs s s.heap ∧ ex 5 0 < s.heap.size ∧ ¬ A (ex 5 0)) (K : rvEnds p l e s m args below meth c Q D cT ex A) : rvG p l e room_1 s m args below meth c Q D cT ex A 7 (40, rvAl0, [.inl (52, 52)], rvAw0, 132, 19068) := by
  refine rvSw hC (rvSw_52) ?_
  exact rvOp_run (hC _ (rvSx6 h6 (rv_any _) (rv_any _) (rv_any _) (rv_any _) (rv_any _))) rvX0_ok K oc_52_0
theorem rvOp_53 (hC : ∀ sc, rvSx ex A s sc → rvCx p s m args meth c code RL 7 D cT ex A false sc) (h6 : va_X (ex 5 0) 6 xs s s.heap ∧ ex 5 0 < s.heap.size ∧ ¬ A (ex 5 0)) (K : rvEnds p l e s m args below meth c Q D cT ex A) : rvG p l e room_1 s m args below meth c Q D cT ex A 7 (40, rvAl0, [.inl (53, 53)], rvAw0, 132, 19068) := by
  refine rvSw hC (rvSw_53) ?_
  exact rvOp_run (hC _ (rvSx6 h6 (rv_any _) (rv_any _) (rv_any _) (rv_any _) (rv_any _))) rvX0_ok K oc_53_0
theorem rvOp_54 (hC : ∀ sc, rvSx ex A s sc → rvCx p s m args meth c code RL 7 D cT ex A false sc) (h6 : va_X (ex 5 0) 6 xs s s.heap ∧ ex 5 0 < s.heap.size ∧ ¬ A (ex 5 0)) (K : rvEnds p l e s m args below meth c Q D cT ex A) : rvG p l e room_1 s m args below meth c Q D cT ex A 7 (40, rvAl0, [.inl (54, 54)], rvAw0, 132, 19068) := by
  refine rvSw hC (rvSw_54) ?_
  exact rvOp_run (hC _ (rvSx6 h6 (rv_any _) (rv_any _) (rv_any _) (rv_any _) (rv_any _))) rvX0_ok K oc_54_0
theorem rvOp_55 (hC : ∀ sc, rvSx ex A s sc → rvCx p s m args meth c code RL 7 D cT ex A false sc) (h6 : va_X (ex 5 0) 6 xs s s.heap ∧ ex 5 0 < s.heap.size ∧ ¬ A (ex 5 0)) (K : rvEnds p l e s m args below meth c Q D cT ex A) : rvG p l e room_1 s m args below meth c Q D cT ex A 7 (40, rvAl0, [.inl (55, 55)], rvAw0, 132, 19068) := by
  refine rvSw hC (rvSw_55) ?_
  exact rvOp_run (hC _ (rvSx6 h6 (rv_any _) (rv_any _) (rv_any _) (rv_any _) (rv_any _))) rvX0_ok K oc_55_0
theorem rvOp_56 (hC : ∀ sc, rvSx ex A s sc → rvCx p s m args meth c code RL 7 D cT ex A false sc) (h6 : va_X (ex 5 0) 6 xs s s.heap ∧ ex 5 0 < s.heap.size ∧ ¬ A (ex 5 0)) (K : rvEnds p l e s m args below meth c Q D cT ex A) : rvG p l e room_1 s m args below meth c Q D cT ex A 7 (40, rvAl0, [.inl (56, 56)], rvAw0, 132, 19068) := by
  refine rvSw hC (rvSw_56) ?_
  exact rvOp_run (hC _ (rvSx6 h6 (rv_any _) (rv_any _) (rv_any _) (rv_any _) (rv_any _))) rvX0_ok K oc_56_0
theorem rvOp_57 (hC : ∀ sc, rvSx ex A s sc → rvCx p s m args meth c code RL 7 D cT ex A false sc) (h6 : va_X (ex 5 0) 6 xs s s.heap ∧ ex 5 0 < s.heap.size ∧ ¬ A (ex 5 0)) (K : rvEnds p l e s m args below meth c Q D cT ex A) : rvG p l e room_1 s m args below meth c Q D cT ex A 7 (40, rvAl0, [.inl (57, 57)], rvAw0, 132, 19068) := by
  refine rvSw hC (rvSw_57) ?_
  exact rvOp_run (hC _ (rvSx6 h6 (rv_any _) (rv_any _) (rv_any _) (rv_any _) (rv_any _))) rvX0_ok K oc_57_0
theorem rvOp_58 (hC : ∀ sc, rvSx ex A s sc → rvCx p s m args meth c code RL 7 D cT ex A false sc) (h6 : va_X (ex 5 0) 6 xs s s.heap ∧ ex 5 0 < s.heap.size ∧ ¬ A (ex 5 0)) (K : rvEnds p l e s m args below meth c Q D cT ex A) : rvG p l e room_1 s m args below meth c Q D cT ex A 7 (40, rvAl0, [.inl (58, 58)], rvAw0, 132, 19068) := by
  refine rvSw hC (rvSw_58) ?_
  exact rvOp_run (hC _ (rvSx6 h6 (rv_any _) (rv_any _) (rv_any _) (rv_any _) (rv_any _))) rvX0_ok K oc_58_0
theorem rvOp_59 (hC : ∀ sc, rvSx ex A s sc → rvCx p s m args meth c code RL 7 D cT ex A false sc) (h6 : va_X (ex 5 0) 6 xs s s.heap ∧ ex 5 0 < s.heap.size ∧ ¬ A (ex 5 0)) (K : rvEnds p l e s m args below meth c Q D cT ex A) : rvG p l e room_1 s m args below meth c Q D cT ex A 7 (40, rvAl0, [.inl (59, 59)], rvAw0, 132, 19068) := by
  refine rvSw hC (rvSw_59) ?_
  exact rvOp_run (hC _ (rvSx6 h6 (rv_any _) (rv_any _) (rv_any _) (rv_any _) (rv_any _))) rvX0_ok K oc_59_0
theorem rvOp_60 (hC : ∀ sc, rvSx ex A s sc → rvCx p s m args meth c code RL 7 D cT ex A false sc) (h6 : va_X (ex 5 0) 6 xs s s.heap ∧ ex 5 0 < s.heap.size ∧ ¬ A (ex 5 0)) (K : rvEnds p l e s m args below meth c Q D cT ex A) : rvG p l e room_1 s m args below meth c Q D cT ex A 7 (40, rvAl0, [.inl (60, 60)], rvAw0, 132, 19068) := by
  refine rvSw hC (rvSw_60) ?_
  exact rvOp_run (hC _ (rvSx6 h6 (rv_any _) (rv_any _) (rv_any _) (rv_any _) (rv_any _))) rvX0_ok K oc_60_0
theorem rvOp_61 (hC : ∀ sc, rvSx ex A s sc → rvCx p s m args meth c code RL 7 D cT ex A false sc) (h6 : va_X (ex 5 0) 6 xs s s.heap ∧ ex 5 0 < s.heap.size ∧ ¬ A (ex 5 0)) (K : rvEnds p l e s m args below meth c Q D cT ex A) : rvG p l e room_1 s m args below meth c Q D cT ex A 7 (40, rvAl0, [.inl (61, 61)], rvAw0, 132, 19068) := by
  refine rvSw hC (rvSw_61) ?_
  exact rvOp_run (hC _ (rvSx6 h6 (rv_any _) (rv_any _) (rv_any _) (rv_any _) (rv_any _))) rvX0_ok K oc_61_0
theorem rvOp_62 (hC : ∀ sc, rvSx ex A s sc → rvCx p s m args meth c code RL 7 D cT ex A false sc) (h6 : va_X (ex 5 0) 6 xs s s.heap ∧ ex 5 0 < s.heap.size ∧ ¬ A (ex 5 0)) (K : rvEnds p l e s m args below meth c Q D cT ex A) : rvG p l e room_1 s m args below meth c Q D cT ex A 7 (40, rvAl0, [.inl (62, 62)], rvAw0, 132, 19068) := by
  refine rvSw hC (rvSw_62) ?_
  exact rvOp_run (hC _ (rvSx6 h6 (rv_any _) (rv_any _) (rv_any _) (rv_any _) (rv_any _))) rvX0_ok K oc_62_0
theorem rvOp_63 (hC : ∀ sc, rvSx ex A s sc → rvCx p s m args meth c code RL 7 D cT ex A false sc) (h6 : va_X (ex 5 0) 6 xs s s.heap ∧ ex 5 0 < s.heap.size ∧ ¬ A (ex 5 0)) (K : rvEnds p l e s m args below meth c Q D cT ex A) : rvG p l e room_1 s m args below meth c Q D cT ex A 7 (40, rvAl0, [.inl (63, 63)], rvAw0, 132, 19068) := by
  refine rvSw hC (rvSw_63) ?_
  exact rvOp_run (hC _ (rvSx6 h6 (rv_any _) (rv_any _) (rv_any _) (rv_any _) (rv_any _))) rvX0_ok K oc_63_0
end RVK
end
section
/-! ===== BEGIN words of one list among another's, by their places ===== -/
theorem goodIn_r {big : List Cond} (ws : List Cond) (ps : List Nat) (hp : ws = ps.filterMap (fun i => big[i]?)) (h : ws.all goodWord = true) : GoodIn big ws := by
  intro w hw
  have h1 := List.all_eq_true.mp h w hw
  rw [hp] at hw
  obtain ⟨i, -, hi⟩ := List.mem_filterMap.mp hw
  have hm : w ∈ big := by first | exact List.mem_of_getElem? hi | exact List.getElem?_mem hi
  exact ⟨hm, good_of_word h1⟩
theorem goodIn_app {big a b : List Cond} (ha : GoodIn big a) (hb : GoodIn big b) : GoodIn big (a ++ b) := fun w h => (List.mem_append.mp h).elim (ha w) (hb w)
theorem goodIn_ca {big a b : List Cond} {c : Cond} (ha : GoodIn big (c :: a)) (hb : GoodIn big b) : GoodIn big (c :: (a ++ b)) := fun w h => (List.mem_cons.mp h).elim (fun e => ha w (List.mem_cons.mpr (Or.inl e))) (fun h => (List.mem_append.mp h).elim (fun h => ha w (List.mem_cons.mpr (Or.inr h))) (hb w))
theorem goodIn_sub {big ws : List Cond} (hm : ∀ w ∈ ws, w ∈ big) (h : ws.all goodWord = true) : GoodIn big ws := fun w hw => ⟨hm w hw, good_of_word (List.all_eq_true.mp h w hw)⟩
/-! ===== END ===== -/

/-! ===== BEGIN exceptions that leave a method, and their catching by the caller (launches without stack traces) ===== -/
section VXA
/-! The laws vx_back, vx_callV, vx_callS, vx_callSW, vx_throw0, vx_throwS follow proofs of the library, with one case more: JvmDerived/Free/Laws.lean (Back.of_free), Shelf42/LK1.lean (callV, callS), Shelf/KitTraced.lean (throwNew0V, throwNewS). -/
/-- where a method has thrown q: the class by its name, the cell, what was written, the world -/
def vx_T (XC : String → State → State → Prop) (st : State) (q : Addr) (t : State) (mc ms : Nat) (free : Addr → Prop) : Prop :=
  ∃ (E : String) (ce : Cell) (L : List Loc), XC E st t ∧ t.heap[q]? = some ce ∧ ce.vm = .none ∧ st.vm.findClass E = some ce.cls ∧ st.WarmedH t.vm ∧ st.sameButNew ({ t with vm := st.vm } : State) L mc ms ∧ ∀ z ∈ L, free z.base
def vx_Q (Qc : Array Value → State → Outcome → State → Prop) (XC : String → State → State → Prop) (mc ms : Nat) (free : Addr → Prop) : Array Value → State → Outcome → State → Prop := fun a st o t =>
  (Qc a st o t ∧ ∃ L, FrameEnd st o t L mc ms ∧ ∀ q ∈ L, free q.base) ∨ ∃ q, o = .threw q ∧ vx_T XC st q t mc ms free
/-- a callee that returns or throws -/
def vx_Met (l : Launch) (y : MethodName) (ws : List Cond) (rm : Room) (Pc : Array Value → State → Prop) (Qc : Array Value → State → Outcome → State → Prop) (XC : String → State → State → Prop) (mc ms : Nat) (free : Addr → Prop) : Prop :=
  MetFree l y (headSpec ws rm) Pc (fun _ _ _ _ _ => True) (vx_Q Qc XC mc ms free)
def vx_Post (XC : String → State → State → Prop) (mc ms : Nat) (free : Addr → Prop) : Pt → Array Value → Addr → Pt → Prop := fun A a q B =>
  ∃ (g : JFrame) (mk : MethodId) (t : State) (L : List Loc) (E : String) (ce : Cell), B.U.heap = t.heap ∧ B.U.vm = t.vm ∧ XC E (A.U.calling g mk a) t ∧ t.heap[q]? = some ce ∧ ce.vm = .none ∧ A.U.vm.findClass E = some ce.cls ∧ B.locs = A.locs ++ L ∧ (∀ z ∈ L, free z.base) ∧ B.cells = A.cells + mc ∧ B.slots = A.slots + ms
def vx_Back (l : Launch) (R : Room) (p : Program) (e : Env) (below : List Frame) (s : State) (sargs : Array Value) (y : MethodName) (len W9 : Nat)
    (Pre : Pt → Array Value → Prop) (Post : Pt → Array Value → Option Value → Pt → Prop) (PostX : Pt → Array Value → Addr → Pt → Prop) : Prop :=
  ∀ (m : MethodId) (meth : Method) (c : Code) (A : Pt) (g : JFrame) (ig : Instr) (mk : MethodId) (a : Array Value),
    Stand p l e R s m sargs below meth c A.U A.locs A.cells A.slots → g.method = m → g.locals.size = c.maxLocals → decode c.code g.pc = .ok (ig, len) →
    2 * g.monitorRoom + (g.stack.map fun v => v.category).sum ≤ W9 → A.U.methodNamed? y = some mk → Pre A a →
    (∃ (v : Option Value) (B : Pt), Stand p l e R s m sargs below meth c B.U B.locs B.cells B.slots ∧ Post A a v B ∧
      Steps p.tables e below (doInvoke e (A.U.setTop g) [] mk a).1 (B.U.setTop { g with pc := g.pc + len, stack := v.toList ++ g.stack })) ∨
    (∃ (q : Addr) (B : Pt), Stand p l e R s m sargs below meth c B.U B.locs B.cells B.slots ∧ PostX A a q B ∧
      Steps p.tables e below (doInvoke e (A.U.setTop g) [] mk a).1 ((B.U.setTop g).pushFrame (.throwing q)))
section Payer
variable {l : Launch} {R : Room} {p : Program} {e : Env} {below : List Frame} {s : State} {sargs : Array Value} {y : MethodName} {len W9 : Nat}
theorem vx_back {ws : List Cond} {rm : Room} {Pc : Array Value → State → Prop} {Qc : Array Value → State → Outcome → State → Prop} {XC : String → State → State → Prop} {mc ms : Nat} {free : Addr → Prop} {bytes : ByteArray} {maxL : Nat} {ret : Option FieldType}
    (hM : vx_Met l y ws rm Pc Qc XC mc ms free) (hblind : FrameBlind Pc) (hrc : rm.cells = mc) (hrs : rm.slots = ms)
    (hframes : rm.frames + 1 ≤ R.frames) (hlocals : W9 + (maxL + 11) + rm.locals ≤ R.locals)
    (hws : ∀ w ∈ ws, ∀ a' U, s.WarmedH U.vm → w.before a' U = true) (hcode : Cond.code y bytes maxL ret ∈ ws) (hinit : ∀ a' U, s.WarmedH U.vm → (Cond.initialized y.cls).before a' U = true) :
    vx_Back l R p e below s sargs y len W9 (PreOf R mc ms Pc) (PostOf Qc mc ms free) (vx_Post XC mc ms free) := by
  intro m meth c A g ig mk a X hg hsize hdg hW hn hp
  have h1 : (headSpec ws rm).pre.before a A.U = true := atoms_intro fun w hw => hws w hw _ _ X.warmed
  have h2 : (Cond.code y bytes maxL ret).before a A.U = true := hws _ hcode _ _ X.warmed
  have h3 : (Cond.initialized y.cls).before a A.U = true := hinit _ _ X.warmed
  have h4 : A.cells + (headSpec ws rm).room.cells ≤ R.cells := by rw [show (headSpec ws rm).room.cells = mc from hrc]; exact hp.1
  have h5 : A.slots + (headSpec ws rm).room.slots ≤ R.slots := by rw [show (headSpec ws rm).room.slots = ms from hrs]; exact hp.2.1
  have hPc : Pc a (A.U.calling g mk a) := hblind _ _ _ _ hp.2.2
  obtain ⟨U, Ls, c0, s0⟩ := A
  dsimp only [Pt.U, Pt.locs, Pt.cells, Pt.slots] at h1 h2 h3 h4 h5 X hn hPc ⊢
  obtain ⟨methY, cY, hmY, hcY, -, hlY, -, -, -, -⟩ := Cond.code_spec hn h2
  obtain ⟨kY, hkY, -⟩ := className_of_methodNamed hn
  have hinitY : kY.init = .initialized := Cond.initialized_spec (findClass_of_methodNamed hn) hkY h3
  have h : At U g.method c below := by rw [hg]; exact X.here
  have hlocals9 : W9 + (maxL + 11) + (headSpec ws rm).room.locals ≤ R.locals := hlocals
  have happ : (headSpec ws rm).appliesLoose y e.platform (U.calling g mk a) = true :=
    Spec.appliesLoose_calling (g := g) h hdg hn hkY hinitY
      (X.room_calling (g := g) (R' := (headSpec ws rm).room) hsize hmY hcY hframes (by rw [hlY]; omega) h4 h5) h1
  obtain ⟨mid, hmid⟩ := h.above
  have hfr : (U.setTop g).frames = (.java g :: mid) ++ below := by rw [State.frames_setTop' g h.top, hmid]; rfl
  obtain ⟨o, s₂, hsteps, -, hend, hq⟩ := Steps.callFree hM p X.admits X.cas X.clock (acts := []) hfr happ hPc trivial
  have hq' : vx_Q Qc XC mc ms free a (U.calling g mk a) o s₂ := hq
  rw [State.frames_setTop' g h.top] at hend
  obtain ⟨g₀, hg0⟩ := Option.isSome_iff_exists.mp h.top
  obtain ⟨r, hr⟩ := State.topJava?_eq_some.mp hg0
  have hr' : (({ U with heap := s₂.heap, slotsUsed := s₂.slotsUsed } : State).setVm s₂.vm).frames = .java g₀ :: r := hr
  rcases hq' with ⟨hqc, L, hfe, hL⟩ | ⟨q, rfl, E, ce, L, hx, hce, hcv, hcl, hW₂, hsm, hL⟩
  · obtain ⟨⟨v, rfl⟩, hW₂, e2, q2, q3, q4, q5, q6⟩ := id hfe
    have e3 : s₂ = ({ (U.calling g mk a).setFrames s₂.frames with heap := s₂.heap, slotsUsed := s₂.slotsUsed } : State).setVm s₂.vm := by
      have : s₂ = ({ s₂ with vm := (U.calling g mk a).vm } : State).setVm s₂.vm := rfl
      rw [e2] at this
      exact this
    obtain ⟨c₂, i₂, len₂, hc₂, hd₂, hf₂⟩ := hend
    have hW' : U.WarmedH s₂.vm := hW₂
    have hcc : c₂ = c := by
      have h1 : s₂.code? g.method = U.code? g.method := by
        rw [State.code?_eq, State.code?_eq, hW'.alike.method?]
      exact Option.some.inj (hc₂.symm.trans (h1.trans h.code))
    subst hcc
    have hlen : len₂ = len := by rw [hdg] at hd₂; cases hd₂; rfl
    subst hlen
    have hs₂ : s₂ = (({ U with heap := s₂.heap, slotsUsed := s₂.slotsUsed } : State).setVm s₂.vm).setTop { g with pc := g.pc + len₂, stack := v.toList ++ g.stack } := by
      refine e3.trans ?_
      rw [hf₂, State.calling_eq h.top, State.setFrames_setFrames, State.setTop_of_frames _ hr', hr]
      rfl
    have hsame : U.sameButNew ({ U with heap := s₂.heap, slotsUsed := s₂.slotsUsed } : State) L mc ms := by
      refine ⟨?_, q2, q3, q4, q5, q6⟩
      obtain ⟨t, ht, -⟩ := State.frames_cons hr
      show ({ U with heap := s₂.heap, slotsUsed := s₂.slotsUsed } : State) = { U.setFrames U.frames with heap := s₂.heap, slotsUsed := s₂.slotsUsed }
      rw [State.setFrames_self ht]
    subst hg
    refine Or.inl ⟨v, ⟨(({ U with heap := s₂.heap, slotsUsed := s₂.slotsUsed } : State).setVm s₂.vm), Ls ++ L, c0 + mc, s0 + ms⟩,
      ⟨X.admits, X.cas, X.clock, X.frames, X.room, X.hears, X.method, X.code, (X.here.setHeapUsed s₂.heap s₂.slotsUsed).setVm hW'.alike, X.tail, State.WarmedH.trans X.warmed hW', X.limits, X.bytes, X.same.trans (hsame.setVm s.vm)⟩,
      ⟨g, mk, s₂, L, rfl, rfl, hqc, rfl, hL, rfl, rfl⟩, ?_⟩
    show Steps p.tables e below _ ((({ U with heap := s₂.heap, slotsUsed := s₂.slotsUsed } : State).setVm s₂.vm).setTop { g with pc := g.pc + len₂, stack := v.toList ++ g.stack })
    rw [← hs₂]
    exact hsteps
  · obtain ⟨e2, q2, q3, q4, q5, q6⟩ := id hsm
    have e3 : s₂ = ({ (U.calling g mk a).setFrames s₂.frames with heap := s₂.heap, slotsUsed := s₂.slotsUsed } : State).setVm s₂.vm := by
      have : s₂ = ({ s₂ with vm := (U.calling g mk a).vm } : State).setVm s₂.vm := rfl
      rw [e2] at this
      exact this
    have hf₂ : s₂.frames = .throwing q :: .java g :: U.frames.tail := hend
    have hW' : U.WarmedH s₂.vm := hW₂
    have hs₂ : s₂ = ((({ U with heap := s₂.heap, slotsUsed := s₂.slotsUsed } : State).setVm s₂.vm).setTop g).pushFrame (.throwing q) := by
      refine e3.trans ?_
      rw [hf₂, State.calling_eq h.top, State.setFrames_setFrames, State.pushFrame, State.frames_setTop _ hr', State.setTop_of_frames _ hr', State.setFrames_setFrames, hr]
      rfl
    have hsame : U.sameButNew ({ U with heap := s₂.heap, slotsUsed := s₂.slotsUsed } : State) L mc ms := by
      refine ⟨?_, q2, q3, q4, q5, q6⟩
      obtain ⟨t, ht, -⟩ := State.frames_cons hr
      show ({ U with heap := s₂.heap, slotsUsed := s₂.slotsUsed } : State) = { U.setFrames U.frames with heap := s₂.heap, slotsUsed := s₂.slotsUsed }
      rw [State.setFrames_self ht]
    subst hg
    refine Or.inr ⟨q, ⟨(({ U with heap := s₂.heap, slotsUsed := s₂.slotsUsed } : State).setVm s₂.vm), Ls ++ L, c0 + mc, s0 + ms⟩,
      ⟨X.admits, X.cas, X.clock, X.frames, X.room, X.hears, X.method, X.code, (X.here.setHeapUsed s₂.heap s₂.slotsUsed).setVm hW'.alike, X.tail, State.WarmedH.trans X.warmed hW', X.limits, X.bytes, X.same.trans (hsame.setVm s.vm)⟩,
      ⟨g, mk, s₂, L, E, ce, rfl, rfl, hx, hce, hcv, hcl, rfl, hL, rfl, rfl⟩, ?_⟩
    show Steps p.tables e below _ (((({ U with heap := s₂.heap, slotsUsed := s₂.slotsUsed } : State).setVm s₂.vm).setTop g).pushFrame (.throwing q))
    rw [← hs₂]
    exact hsteps
end Payer
section Calls
variable {p : Program} {l : Launch} {e : Env} {R : Room} {s : State} {m : MethodId} {args : Array Value} {below : List Frame} {meth : Method} {c : Code} {T : State} {locs : List Loc} {cells slots : Nat}
theorem vx_callV (X : Stand p l e R s m args below meth c T locs cells slots) (hexec : p.tables.exec = Jvm.exec) {own C : String} {index : Nat} {y : MethodName} {bytes : ByteArray} {maxL : Nat} {ret : Option FieldType}
    (hown : s.vm.findClass own = some m.cls) (hlink : (Cond.methodLink own index y).before args s = true) (hinst : (Cond.instanceMethod y).before args s = true) (hsel : (Cond.selects C y y).before args s = true)
    (hcode : (Cond.code y bytes maxL ret).before args s = true) (hy : y.cls ≠ "java/lang/invoke/MethodHandle" ∧ y.cls ≠ "java/lang/invoke/VarHandle")
    {W9 : Nat} {Pre : Pt → Array Value → Prop} {Post : Pt → Array Value → Option Value → Pt → Prop} {PostX : Pt → Array Value → Addr → Pt → Prop} (hK : vx_Back l R p e below s args y 3 W9 Pre Post PostX)
    {b : Addr} {cellB : Cell} (hcell : T.heap[b]? = some cellB) (hobj : cellB.vm.isStatics = false) (hcls : s.vm.findClass C = some cellB.cls)
    {g : JFrame} (hg : g.method = m) (hsize : g.locals.size = c.maxLocals) {argsL rest : List Value} (hlen : ∀ sig, parseMethodDescriptor y.desc = some sig → argsL.length = sig.parameters.length)
    (hstack : g.stack = argsL.reverse ++ .ref b :: rest) (hW : 2 * g.monitorRoom + (rest.map fun v => v.category).sum ≤ W9) (hdg : decode c.code g.pc = .ok (.invokevirtual index, 3))
    (hpre : ∀ vm₁, s.WarmedH vm₁ → Pre ⟨T.setVm vm₁, locs, cells, slots⟩ (Value.ref b :: argsL).toArray) :
    (∃ (v : Option Value) (vm₁ : Vm) (B : Pt), s.WarmedH vm₁ ∧ Stand p l e R s m args below meth c B.U B.locs B.cells B.slots ∧ Post ⟨T.setVm vm₁, locs, cells, slots⟩ (Value.ref b :: argsL).toArray v B ∧
      ∀ target, Steps p.tables e below (B.U.setTop { g with pc := g.pc + 3, stack := v.toList ++ rest }) target → Steps p.tables e below (T.setTop g) target) ∨
    (∃ (q : Addr) (vm₁ : Vm) (B : Pt), s.WarmedH vm₁ ∧ Stand p l e R s m args below meth c B.U B.locs B.cells B.slots ∧ PostX ⟨T.setVm vm₁, locs, cells, slots⟩ (Value.ref b :: argsL).toArray q B ∧
      Steps p.tables e below (T.setTop g) ((B.U.setTop { g with stack := rest }).pushFrame (.throwing q))) := by
  obtain ⟨mk, methM, hnamed, hmethM, hstM, habM⟩ := Cond.instanceMethod_spec hinst
  obtain ⟨methM', cM, hmethM', -, -, -, -, -, -, hsigM⟩ := Cond.code_spec hnamed hcode
  cases hmethM.symm.trans hmethM'
  obtain ⟨c2, r2, m2, q1, q2, q3, q4, kP, hkP, hkPi⟩ := Cond.selects_spec hsel
  cases hcls.symm.trans q1
  cases (State.methodFound?_of_named hnamed hy).symm.trans q2
  cases hnamed.symm.trans q3
  have hselP : selectMethod e.platform s.vm cellB.cls mk = .method mk := by rw [Launch.admits_selectMethod X.admits]; exact q4
  obtain ⟨vm₁, X₁, hstep₁⟩ := X.invokevirtual hexec hown hlink hnamed hmethM hstM hkP hkPi hy (a := b) (cell := cellB) hcell
    (fun z h => by rw [h] at hobj; cases hobj) hselP hmethM habM hkP hkPi (g := g) hg (argsL := argsL) (rest := rest) (hlen _ hsigM) hstack hdg
  rcases hK m meth c ⟨T.setVm vm₁, locs, cells, slots⟩ { g with stack := rest } (.invokevirtual index) mk (Value.ref b :: argsL).toArray X₁ hg hsize hdg hW (X₁.named hnamed) (hpre vm₁ X₁.warmed) with ⟨v, B, X', hpost, hsteps⟩ | ⟨q, B, X', hpost, hsteps⟩
  · exact Or.inl ⟨v, vm₁, B, X₁.warmed, X', hpost, fun target h => hstep₁ _ fun acts => by rw [doInvoke_state]; exact hsteps.trans h⟩
  · exact Or.inr ⟨q, vm₁, B, X₁.warmed, X', hpost, hstep₁ _ fun acts => by rw [doInvoke_state]; exact hsteps⟩
theorem vx_callS (X : Stand p l e R s m args below meth c T locs cells slots) (hexec : p.tables.exec = Jvm.exec) {own : String} {index : Nat} {y : MethodName} {bytes : ByteArray} {maxL : Nat} {ret : Option FieldType}
    (hown : s.vm.findClass own = some m.cls) (hlink : (Cond.methodLink own index y).before args s = true) (hstat : (Cond.static y).before args s = true) (hinit : (Cond.initialized y.cls).before args s = true)
    (hcode : (Cond.code y bytes maxL ret).before args s = true) (hy : y.cls ≠ "java/lang/invoke/MethodHandle" ∧ y.cls ≠ "java/lang/invoke/VarHandle")
    {W9 : Nat} {Pre : Pt → Array Value → Prop} {Post : Pt → Array Value → Option Value → Pt → Prop} {PostX : Pt → Array Value → Addr → Pt → Prop} (hK : vx_Back l R p e below s args y 3 W9 Pre Post PostX)
    {g : JFrame} (hg : g.method = m) (hsize : g.locals.size = c.maxLocals) {argsL rest : List Value} (hlen : ∀ sig, parseMethodDescriptor y.desc = some sig → argsL.length = sig.parameters.length)
    (hstack : g.stack = argsL.reverse ++ rest) (hW : 2 * g.monitorRoom + (rest.map fun v => v.category).sum ≤ W9) (hdg : decode c.code g.pc = .ok (.invokestatic index, 3))
    (hpre : ∀ vm₁, s.WarmedH vm₁ → Pre ⟨T.setVm vm₁, locs, cells, slots⟩ argsL.toArray) :
    (∃ (v : Option Value) (vm₁ : Vm) (B : Pt), s.WarmedH vm₁ ∧ Stand p l e R s m args below meth c B.U B.locs B.cells B.slots ∧ Post ⟨T.setVm vm₁, locs, cells, slots⟩ argsL.toArray v B ∧
      ∀ target, Steps p.tables e below (B.U.setTop { g with pc := g.pc + 3, stack := v.toList ++ rest }) target → Steps p.tables e below (T.setTop g) target) ∨
    (∃ (q : Addr) (vm₁ : Vm) (B : Pt), s.WarmedH vm₁ ∧ Stand p l e R s m args below meth c B.U B.locs B.cells B.slots ∧ PostX ⟨T.setVm vm₁, locs, cells, slots⟩ argsL.toArray q B ∧
      Steps p.tables e below (T.setTop g) ((B.U.setTop { g with stack := rest }).pushFrame (.throwing q))) := by
  obtain ⟨mk, hnamed⟩ := Cond.code_named hcode
  obtain ⟨methM, cM, hmethM, -, -, -, -, -, -, hsigM⟩ := Cond.code_spec hnamed hcode
  have hstatic : methM.isStatic = true := Cond.static_spec hnamed hmethM hstat
  obtain ⟨kP, hkP, -⟩ := className_of_methodNamed hnamed
  have hinitP : kP.init = .initialized := Cond.initialized_spec (findClass_of_methodNamed hnamed) hkP hinit
  obtain ⟨vm₁, X₁, hstep₁⟩ := X.invokestatic hexec hown hlink hnamed hmethM hstatic hkP hinitP hy (g := g) hg (argsL := argsL) (rest := rest) (hlen _ hsigM) hstack hdg
  rcases hK m meth c ⟨T.setVm vm₁, locs, cells, slots⟩ { g with stack := rest } (.invokestatic index) mk argsL.toArray X₁ hg hsize hdg hW (X₁.named hnamed) (hpre vm₁ X₁.warmed) with ⟨v, B, X', hpost, hsteps⟩ | ⟨q, B, X', hpost, hsteps⟩
  · exact Or.inl ⟨v, vm₁, B, X₁.warmed, X', hpost, fun target h => hstep₁ _ fun acts => by rw [doInvoke_state]; exact hsteps.trans h⟩
  · exact Or.inr ⟨q, vm₁, B, X₁.warmed, X', hpost, hstep₁ _ fun acts => by rw [doInvoke_state]; exact hsteps⟩
end Calls
theorem vx_cls {s : State} {T : State} {vm₁ : Vm} {E : String} {k : ClassId} (hW : s.WarmedH vm₁) (h : (T.setVm vm₁).vm.findClass E = some k) : s.vm.findClass E = some k := by
  have h1 : vm₁.findClass E = some k := h
  rw [hW.alike.findClass] at h1
  exact h1
/-- the method's frame g, with q thrown over it -/
def vx_W (p : Program) (l : Launch) (e : Env) (R : Room) (s : State) (m : MethodId) (args : Array Value) (below : List Frame) (meth : Method) (c : Code) (H : Heap) (locs : List Loc) (cells slots : Nat) (Q : State → Prop) (g : JFrame) (q : Addr) : Prop :=
  ∀ T : State, T.heap = H → Stand p l e R s m args below meth c T locs cells slots → ∃ t, Steps p.tables e below ((T.setTop g).pushFrame (.throwing q)) t ∧ Q t
def vx_Run (p : Program) (l : Launch) (e : Env) (R : Room) (s : State) (m : MethodId) (args : Array Value) (below : List Frame) (meth : Method) (c : Code) (H : Heap) (locs : List Loc) (cells slots mc ms : Nat) (g : JFrame) (rest : List Value) (Qa : State → Outcome → State → Prop) (XC : String → State → State → Prop) (free : Addr → Prop) : Prop :=
  ∀ T : State, T.heap = H → Stand p l e R s m args below meth c T locs cells slots →
    (∃ (v : Option Value) (st₀ t T' : State) (L : List Loc), st₀.heap = H ∧ Stand p l e R s m args below meth c T' (locs ++ L) (cells + mc) (slots + ms) ∧ (∀ q ∈ L, free q.base) ∧ T'.heap = t.heap ∧ T'.vm = t.vm ∧ Qa st₀ (.returned v) t ∧
      Goes p e below T g T' { g with pc := g.pc + 3, stack := v.toList ++ rest }) ∨
    (∃ (q : Addr) (st₀ t T' : State) (L : List Loc) (E : String) (ce : Cell), st₀.heap = H ∧ Stand p l e R s m args below meth c T' (locs ++ L) (cells + mc) (slots + ms) ∧ (∀ z ∈ L, free z.base) ∧ T'.heap = t.heap ∧ T'.vm = t.vm ∧ XC E st₀ t ∧ t.heap[q]? = some ce ∧ ce.vm = .none ∧ s.vm.findClass E = some ce.cls ∧
      Steps p.tables e below (T.setTop g) ((T'.setTop { g with stack := rest }).pushFrame (.throwing q)))
def vx_X {S : Type} (px : S → Prop) (B : String → S → State → Prop) (A : Nat → Prop) : String → State → State → Prop := fun E st t => ∃ u : S, px u ∧ B E u t ∧ va_F A st t
section Runs
variable {p : Program} {l : Launch} {e : Env} {R : Room} {s : State} {m : MethodId} {args : Array Value} {below : List Frame} {meth : Method} {c : Code} {H : Heap} {locs : List Loc} {cells slots : Nat}
variable {y : MethodName} {bytes cc : ByteArray} {maxL nL mc ms n index : Nat} {ret : Option FieldType} {ws : List Cond} {rm : Room} {Pc : Array Value → State → Prop} {Qc : Array Value → State → Outcome → State → Prop} {XC : String → State → State → Prop} {free : Addr → Prop} {Ts : List Cond} {own C : String} {b : Addr} {As rest : List Value} {g : JFrame}
theorem vx_callBack (cb : CallB R s args own index y bytes maxL ret ws rm mc ms n) (hM : vx_Met l y ws rm Pc Qc XC mc ms free) (hbl : FrameBlind Pc) : vx_Back l R p e below s args y 3 8 (PreOf R mc ms Pc) (PostOf Qc mc ms free) (vx_Post XC mc ms free) := by
  obtain ⟨hrc, hrs, hfr, hlo, hws, hcw, -, hini, -⟩ := cb
  exact vx_back (bytes := bytes) (maxL := maxL) (ret := ret) hM hbl hrc hrs hfr hlo hws hcw (fun a' U hW => word_at hW (Or.inl (by first | rfl | simp [Cond.onTables, Cond.keeps, Cond.steady])) hini)
theorem vx_runV (S : CallFix p m c cc nL s args Ts own) (hM : vx_Met l y ws rm Pc Qc XC mc ms free) (cw : CallW R s args own C index y bytes maxL ret ws rm mc ms n) (hp : PreV s H C b Pc As)
    (hg : g.method = m) (hn : As.length = n) (hsize : g.locals.size = nL) (hstack : g.stack = As.reverse ++ .ref b :: rest) (hW : 2 * g.monitorRoom + (rest.map fun v => v.category).sum ≤ 8) (hdg : decode cc g.pc = .ok (.invokevirtual index, 3)) (hf : cells + mc ≤ R.cells ∧ slots + ms ≤ R.slots) :
    vx_Run p l e R s m args below meth c H locs cells slots mc ms g rest (Qc (Value.ref b :: As).toArray) XC free := by
  have hK : vx_Back l R p e below s args y 3 8 (PreOf R mc ms Pc) (PostOf Qc mc ms free) (vx_Post XC mc ms free) := vx_callBack cw.1 hM hp.1
  obtain ⟨⟨-, -, -, -, -, -, hcode, -, hy, hlen, hl⟩, hin, hse⟩ := cw
  obtain ⟨hx, hb, hml, ho, -⟩ := S
  obtain ⟨-, ⟨cellB, hcB, hoB, hclB⟩, hPc⟩ := hp
  intro T hT X
  rcases vx_callV X hx (C := C) (bytes := bytes) (maxL := maxL) (ret := ret) ho hl hin hse hcode hy hK (by rw [hT]; exact hcB) hoB hclB hg (hsize.trans hml.symm) (argsL := As) (rest := rest) (fun sig h => hn.trans (hlen sig h)) hstack hW (by rw [hb]; exact hdg)
    (fun vm₁ hW₁ => ⟨hf.1, hf.2, hPc (T.setVm vm₁) hT hW₁⟩) with ⟨v, vm₁, ⟨U', l2, c2, s2⟩, hW₁, X', ⟨g', mk, t, L, e1, e2, hq, h1, hL, h2, h3⟩, st⟩ | ⟨q, vm₁, ⟨U', l2, c2, s2⟩, hW₁, X', ⟨g', mk, t, L, E, ce, e1, e2, hq, hce, hcv, hcl, h1, hL, h2, h3⟩, st⟩
  · dsimp only [Pt.U, Pt.locs, Pt.cells, Pt.slots] at X' e1 e2 h1 h2 h3 st
    subst h1; subst h2; subst h3
    exact Or.inl ⟨v, (T.setVm vm₁).calling g' mk (Value.ref b :: As).toArray, t, U', L, hT, X', hL, e1, e2, hq, st⟩
  · dsimp only [Pt.U, Pt.locs, Pt.cells, Pt.slots] at X' e1 e2 h1 h2 h3 st hcl
    subst h1; subst h2; subst h3
    exact Or.inr ⟨q, (T.setVm vm₁).calling g' mk (Value.ref b :: As).toArray, t, U', L, E, ce, hT, X', hL, e1, e2, hq, hce, hcv, vx_cls hW₁ hcl, st⟩
theorem vx_runS (S : CallFix p m c cc nL s args Ts own) (hM : vx_Met l y ws rm Pc Qc XC mc ms free) (cw : CallB R s args own index y bytes maxL ret ws rm mc ms n ∧ (Cond.static y).before args s = true) (hp : PreS s H Pc As)
    (hg : g.method = m) (hn : As.length = n) (hsize : g.locals.size = nL) (hstack : g.stack = As.reverse ++ rest) (hW : 2 * g.monitorRoom + (rest.map fun v => v.category).sum ≤ 8) (hdg : decode cc g.pc = .ok (.invokestatic index, 3)) (hf : cells + mc ≤ R.cells ∧ slots + ms ≤ R.slots) :
    vx_Run p l e R s m args below meth c H locs cells slots mc ms g rest (Qc As.toArray) XC free := by
  have hK : vx_Back l R p e below s args y 3 8 (PreOf R mc ms Pc) (PostOf Qc mc ms free) (vx_Post XC mc ms free) := vx_callBack cw.1 hM hp.1
  obtain ⟨⟨-, -, -, -, -, -, hcode, hini, hy, hlen, hl⟩, hstt⟩ := cw
  obtain ⟨hx, hb, hml, ho, -⟩ := S
  intro T hT X
  rcases vx_callS X hx (bytes := bytes) (maxL := maxL) (ret := ret) ho hl hstt hini hcode hy hK hg (hsize.trans hml.symm) (argsL := As) (rest := rest) (fun sig h => hn.trans (hlen sig h)) hstack hW (by rw [hb]; exact hdg)
    (fun vm₁ hW₁ => ⟨hf.1, hf.2, hp.2 (T.setVm vm₁) hT hW₁⟩) with ⟨v, vm₁, ⟨U', l2, c2, s2⟩, hW₁, X', ⟨g', mk, t, L, e1, e2, hq, h1, hL, h2, h3⟩, st⟩ | ⟨q, vm₁, ⟨U', l2, c2, s2⟩, hW₁, X', ⟨g', mk, t, L, E, ce, e1, e2, hq, hce, hcv, hcl, h1, hL, h2, h3⟩, st⟩
  · dsimp only [Pt.U, Pt.locs, Pt.cells, Pt.slots] at X' e1 e2 h1 h2 h3 st
    subst h1; subst h2; subst h3
    exact Or.inl ⟨v, (T.setVm vm₁).calling g' mk As.toArray, t, U', L, hT, X', hL, e1, e2, hq, st⟩
  · dsimp only [Pt.U, Pt.locs, Pt.cells, Pt.slots] at X' e1 e2 h1 h2 h3 st hcl
    subst h1; subst h2; subst h3
    exact Or.inr ⟨q, (T.setVm vm₁).calling g' mk As.toArray, t, U', L, E, ce, hT, X', hL, e1, e2, hq, hce, hcv, vx_cls hW₁ hcl, st⟩
end Runs
section Rows
variable {p : Program} {l : Launch} {e : Env} {R : Room} {s : State} {m : MethodId} {args : Array Value} {below : List Frame} {meth : Method} {c : Code} {H : Heap} {locs : List Loc} {cells slots : Nat} {Q : State → Prop}
variable {mc ms : Nat} {free : Addr → Prop} {A0 A1 : Nat → Prop} {H0 : Heap} {a : Array Value} {pc : Nat} {ls : Array Slot} {st0 rest : List Value}
theorem vx_keep {st₀ t T' : State} {L : List Loc} (h0 : st₀.heap = H) (e1 : T'.heap = t.heap) (hS : va_S A0 H0 H locs) (hA : ∀ q, q < H.size → A1 q → A0 q) (hf : ∀ q, free q → A0 q) (hL : ∀ q ∈ L, free q.base) (hF : va_F A1 st₀ t) :
    H.size ≤ T'.heap.size ∧ (∀ q : Nat, q < H.size → ¬ A1 q → T'.heap[q]? = H[q]?) ∧ va_S A0 H0 T'.heap (locs ++ L) := by
  obtain ⟨hz, hk⟩ := hF
  rw [h0] at hz hk
  exact ⟨by rw [e1]; exact hz, fun q h1 h2 => by rw [e1]; exact hk q h1 h2,
    ⟨Nat.le_trans hS.1 (by rw [e1]; exact hz), fun q h1 h2 => by rw [e1, hk q (Nat.lt_of_lt_of_le h1 hS.1) (fun z => h2 (hA q (Nat.lt_of_lt_of_le h1 hS.1) z))]; exact hS.2.1 q h1 h2, fun q hq => by
      rcases List.mem_append.mp hq with h | h
      · exact hS.2.2 q h
      · exact hf _ (hL q h)⟩⟩
theorem vx_calli {S SX : Type} {post : Int32 → S → Prop} {px : SX → Prop} {B : S → State → Prop} {BX : String → SX → State → Prop} {AX : Nat → Prop} (hr : vx_Run p l e R s m args below meth c H locs cells slots mc ms (F0 m pc ls st0) rest (va_Qi post B A1 a) (vx_X px BX AX) free) (hS : va_S A0 H0 H locs) (hA : ∀ q, q < H.size → A1 q → A0 q) (hf : ∀ q, free q → A0 q) (hAX : ∀ q, q < H.size → AX q → A0 q)
    (kx : ∀ (E : String) (ce : Cell) (q9 : Addr) (u : SX) (t : State) (H1 : Heap) (locs1 : List Loc), t.heap = H1 → s.vm.Alike t.vm → px u → BX E u t → H.size ≤ H1.size → (∀ q : Nat, q < H.size → ¬ AX q → H1[q]? = H[q]?) → va_S A0 H0 H1 locs1 → H1[q9]? = some ce → ce.vm = .none → s.vm.findClass E = some ce.cls → vx_W p l e R s m args below meth c H1 locs1 (cells + mc) (slots + ms) Q (F0 m pc ls rest) q9)
    (kk : ∀ (r : Int32) (u : S) (t : State) (H1 : Heap) (locs1 : List Loc), t.heap = H1 → s.vm.Alike t.vm → post r u → B u t → H.size ≤ H1.size → (∀ q : Nat, q < H.size → ¬ A1 q → H1[q]? = H[q]?) → va_S A0 H0 H1 locs1 → W p l e R s m args below meth c H1 locs1 (cells + mc) (slots + ms) Q (F0 m (pc + 3) ls (.int r :: rest))) : W p l e R s m args below meth c H locs cells slots Q (F0 m pc ls st0) := by
  intro T hT X
  rcases hr T hT X with ⟨v, st₀, t, T', L, h0, X', hL, e1, e2, ⟨⟨r, u, hv, hp, hb⟩, hF⟩, st⟩ | ⟨q, st₀, t, T', L, E, ce, h0, X', hL, e1, e2, ⟨u, hp, hb, hF⟩, hce, hcv, hcl, st⟩
  · cases hv
    obtain ⟨k1, k2, k3⟩ := vx_keep h0 e1 hS hA hf hL hF
    obtain ⟨t2, a1, b1⟩ := kk r u t T'.heap (locs ++ L) e1.symm (by rw [← e2]; exact X'.warmed.alike) hp hb k1 k2 k3 T' rfl X'
    exact ⟨t2, st t2 a1, b1⟩
  · obtain ⟨k1, k2, k3⟩ := vx_keep h0 e1 hS hAX hf hL hF
    obtain ⟨t2, a1, b1⟩ := kx E ce q u t T'.heap (locs ++ L) e1.symm (by rw [← e2]; exact X'.warmed.alike) hp hb k1 k2 k3 (by rw [e1]; exact hce) hcv hcl T' rfl X'
    exact ⟨t2, st.trans a1, b1⟩
theorem vx_calll {S SX : Type} {post : Int64 → S → Prop} {px : SX → Prop} {B : S → State → Prop} {BX : String → SX → State → Prop} {AX : Nat → Prop} (hr : vx_Run p l e R s m args below meth c H locs cells slots mc ms (F0 m pc ls st0) rest (va_Ql post B A1 a) (vx_X px BX AX) free) (hS : va_S A0 H0 H locs) (hA : ∀ q, q < H.size → A1 q → A0 q) (hf : ∀ q, free q → A0 q) (hAX : ∀ q, q < H.size → AX q → A0 q)
    (kx : ∀ (E : String) (ce : Cell) (q9 : Addr) (u : SX) (t : State) (H1 : Heap) (locs1 : List Loc), t.heap = H1 → s.vm.Alike t.vm → px u → BX E u t → H.size ≤ H1.size → (∀ q : Nat, q < H.size → ¬ AX q → H1[q]? = H[q]?) → va_S A0 H0 H1 locs1 → H1[q9]? = some ce → ce.vm = .none → s.vm.findClass E = some ce.cls → vx_W p l e R s m args below meth c H1 locs1 (cells + mc) (slots + ms) Q (F0 m pc ls rest) q9)
    (kk : ∀ (r : Int64) (u : S) (t : State) (H1 : Heap) (locs1 : List Loc), t.heap = H1 → s.vm.Alike t.vm → post r u → B u t → H.size ≤ H1.size → (∀ q : Nat, q < H.size → ¬ A1 q → H1[q]? = H[q]?) → va_S A0 H0 H1 locs1 → W p l e R s m args below meth c H1 locs1 (cells + mc) (slots + ms) Q (F0 m (pc + 3) ls (.long r :: rest))) : W p l e R s m args below meth c H locs cells slots Q (F0 m pc ls st0) := by
  intro T hT X
  rcases hr T hT X with ⟨v, st₀, t, T', L, h0, X', hL, e1, e2, ⟨⟨r, u, hv, hp, hb⟩, hF⟩, st⟩ | ⟨q, st₀, t, T', L, E, ce, h0, X', hL, e1, e2, ⟨u, hp, hb, hF⟩, hce, hcv, hcl, st⟩
  · cases hv
    obtain ⟨k1, k2, k3⟩ := vx_keep h0 e1 hS hA hf hL hF
    obtain ⟨t2, a1, b1⟩ := kk r u t T'.heap (locs ++ L) e1.symm (by rw [← e2]; exact X'.warmed.alike) hp hb k1 k2 k3 T' rfl X'
    exact ⟨t2, st t2 a1, b1⟩
  · obtain ⟨k1, k2, k3⟩ := vx_keep h0 e1 hS hAX hf hL hF
    obtain ⟨t2, a1, b1⟩ := kx E ce q u t T'.heap (locs ++ L) e1.symm (by rw [← e2]; exact X'.warmed.alike) hp hb k1 k2 k3 (by rw [e1]; exact hce) hcv hcl T' rfl X'
    exact ⟨t2, st.trans a1, b1⟩
theorem vx_callf {S SX : Type} {post : UInt32 → S → Prop} {px : SX → Prop} {B : S → State → Prop} {BX : String → SX → State → Prop} {AX : Nat → Prop} (hr : vx_Run p l e R s m args below meth c H locs cells slots mc ms (F0 m pc ls st0) rest (va_Qf post B A1 a) (vx_X px BX AX) free) (hS : va_S A0 H0 H locs) (hA : ∀ q, q < H.size → A1 q → A0 q) (hf : ∀ q, free q → A0 q) (hAX : ∀ q, q < H.size → AX q → A0 q)
    (kx : ∀ (E : String) (ce : Cell) (q9 : Addr) (u : SX) (t : State) (H1 : Heap) (locs1 : List Loc), t.heap = H1 → s.vm.Alike t.vm → px u → BX E u t → H.size ≤ H1.size → (∀ q : Nat, q < H.size → ¬ AX q → H1[q]? = H[q]?) → va_S A0 H0 H1 locs1 → H1[q9]? = some ce → ce.vm = .none → s.vm.findClass E = some ce.cls → vx_W p l e R s m args below meth c H1 locs1 (cells + mc) (slots + ms) Q (F0 m pc ls rest) q9)
    (kk : ∀ (r : UInt32) (u : S) (t : State) (H1 : Heap) (locs1 : List Loc), t.heap = H1 → s.vm.Alike t.vm → post r u → B u t → H.size ≤ H1.size → (∀ q : Nat, q < H.size → ¬ A1 q → H1[q]? = H[q]?) → va_S A0 H0 H1 locs1 → W p l e R s m args below meth c H1 locs1 (cells + mc) (slots + ms) Q (F0 m (pc + 3) ls (.float r :: rest))) : W p l e R s m args below meth c H locs cells slots Q (F0 m pc ls st0) := by
  intro T hT X
  rcases hr T hT X with ⟨v, st₀, t, T', L, h0, X', hL, e1, e2, ⟨⟨r, u, hv, hp, hb⟩, hF⟩, st⟩ | ⟨q, st₀, t, T', L, E, ce, h0, X', hL, e1, e2, ⟨u, hp, hb, hF⟩, hce, hcv, hcl, st⟩
  · cases hv
    obtain ⟨k1, k2, k3⟩ := vx_keep h0 e1 hS hA hf hL hF
    obtain ⟨t2, a1, b1⟩ := kk r u t T'.heap (locs ++ L) e1.symm (by rw [← e2]; exact X'.warmed.alike) hp hb k1 k2 k3 T' rfl X'
    exact ⟨t2, st t2 a1, b1⟩
  · obtain ⟨k1, k2, k3⟩ := vx_keep h0 e1 hS hAX hf hL hF
    obtain ⟨t2, a1, b1⟩ := kx E ce q u t T'.heap (locs ++ L) e1.symm (by rw [← e2]; exact X'.warmed.alike) hp hb k1 k2 k3 (by rw [e1]; exact hce) hcv hcl T' rfl X'
    exact ⟨t2, st.trans a1, b1⟩
theorem vx_calld {S SX : Type} {post : UInt64 → S → Prop} {px : SX → Prop} {B : S → State → Prop} {BX : String → SX → State → Prop} {AX : Nat → Prop} (hr : vx_Run p l e R s m args below meth c H locs cells slots mc ms (F0 m pc ls st0) rest (va_Qd post B A1 a) (vx_X px BX AX) free) (hS : va_S A0 H0 H locs) (hA : ∀ q, q < H.size → A1 q → A0 q) (hf : ∀ q, free q → A0 q) (hAX : ∀ q, q < H.size → AX q → A0 q)
    (kx : ∀ (E : String) (ce : Cell) (q9 : Addr) (u : SX) (t : State) (H1 : Heap) (locs1 : List Loc), t.heap = H1 → s.vm.Alike t.vm → px u → BX E u t → H.size ≤ H1.size → (∀ q : Nat, q < H.size → ¬ AX q → H1[q]? = H[q]?) → va_S A0 H0 H1 locs1 → H1[q9]? = some ce → ce.vm = .none → s.vm.findClass E = some ce.cls → vx_W p l e R s m args below meth c H1 locs1 (cells + mc) (slots + ms) Q (F0 m pc ls rest) q9)
    (kk : ∀ (r : UInt64) (u : S) (t : State) (H1 : Heap) (locs1 : List Loc), t.heap = H1 → s.vm.Alike t.vm → post r u → B u t → H.size ≤ H1.size → (∀ q : Nat, q < H.size → ¬ A1 q → H1[q]? = H[q]?) → va_S A0 H0 H1 locs1 → W p l e R s m args below meth c H1 locs1 (cells + mc) (slots + ms) Q (F0 m (pc + 3) ls (.double r :: rest))) : W p l e R s m args below meth c H locs cells slots Q (F0 m pc ls st0) := by
  intro T hT X
  rcases hr T hT X with ⟨v, st₀, t, T', L, h0, X', hL, e1, e2, ⟨⟨r, u, hv, hp, hb⟩, hF⟩, st⟩ | ⟨q, st₀, t, T', L, E, ce, h0, X', hL, e1, e2, ⟨u, hp, hb, hF⟩, hce, hcv, hcl, st⟩
  · cases hv
    obtain ⟨k1, k2, k3⟩ := vx_keep h0 e1 hS hA hf hL hF
    obtain ⟨t2, a1, b1⟩ := kk r u t T'.heap (locs ++ L) e1.symm (by rw [← e2]; exact X'.warmed.alike) hp hb k1 k2 k3 T' rfl X'
    exact ⟨t2, st t2 a1, b1⟩
  · obtain ⟨k1, k2, k3⟩ := vx_keep h0 e1 hS hAX hf hL hF
    obtain ⟨t2, a1, b1⟩ := kx E ce q u t T'.heap (locs ++ L) e1.symm (by rw [← e2]; exact X'.warmed.alike) hp hb k1 k2 k3 (by rw [e1]; exact hce) hcv hcl T' rfl X'
    exact ⟨t2, st.trans a1, b1⟩
theorem vx_callv {S SX : Type} {post : S → Prop} {px : SX → Prop} {B : S → State → Prop} {BX : String → SX → State → Prop} {AX : Nat → Prop} (hr : vx_Run p l e R s m args below meth c H locs cells slots mc ms (F0 m pc ls st0) rest (va_Qv post B A1 a) (vx_X px BX AX) free) (hS : va_S A0 H0 H locs) (hA : ∀ q, q < H.size → A1 q → A0 q) (hf : ∀ q, free q → A0 q) (hAX : ∀ q, q < H.size → AX q → A0 q)
    (kx : ∀ (E : String) (ce : Cell) (q9 : Addr) (u : SX) (t : State) (H1 : Heap) (locs1 : List Loc), t.heap = H1 → s.vm.Alike t.vm → px u → BX E u t → H.size ≤ H1.size → (∀ q : Nat, q < H.size → ¬ AX q → H1[q]? = H[q]?) → va_S A0 H0 H1 locs1 → H1[q9]? = some ce → ce.vm = .none → s.vm.findClass E = some ce.cls → vx_W p l e R s m args below meth c H1 locs1 (cells + mc) (slots + ms) Q (F0 m pc ls rest) q9)
    (kk : ∀ (u : S) (t : State) (H1 : Heap) (locs1 : List Loc), t.heap = H1 → s.vm.Alike t.vm → post u → B u t → H.size ≤ H1.size → (∀ q : Nat, q < H.size → ¬ A1 q → H1[q]? = H[q]?) → va_S A0 H0 H1 locs1 → W p l e R s m args below meth c H1 locs1 (cells + mc) (slots + ms) Q (F0 m (pc + 3) ls (rest))) : W p l e R s m args below meth c H locs cells slots Q (F0 m pc ls st0) := by
  intro T hT X
  rcases hr T hT X with ⟨v, st₀, t, T', L, h0, X', hL, e1, e2, ⟨⟨u, hv, hp, hb⟩, hF⟩, st⟩ | ⟨q, st₀, t, T', L, E, ce, h0, X', hL, e1, e2, ⟨u, hp, hb, hF⟩, hce, hcv, hcl, st⟩
  · cases hv
    obtain ⟨k1, k2, k3⟩ := vx_keep h0 e1 hS hA hf hL hF
    obtain ⟨t2, a1, b1⟩ := kk u t T'.heap (locs ++ L) e1.symm (by rw [← e2]; exact X'.warmed.alike) hp hb k1 k2 k3 T' rfl X'
    exact ⟨t2, st t2 a1, b1⟩
  · obtain ⟨k1, k2, k3⟩ := vx_keep h0 e1 hS hAX hf hL hF
    obtain ⟨t2, a1, b1⟩ := kx E ce q u t T'.heap (locs ++ L) e1.symm (by rw [← e2]; exact X'.warmed.alike) hp hb k1 k2 k3 (by rw [e1]; exact hce) hcv hcl T' rfl X'
    exact ⟨t2, st.trans a1, b1⟩
/-- caught by the row x of this method's table; the rows ahead don't take it -/
theorem vx_catch {own name : String} {E : String} {ce : Cell} {q : Addr} (hown : s.vm.findClass own = some m.cls) (pre : List ExceptionTableEntry) (x : ExceptionTableEntry) (suf : List ExceptionTableEntry) (hsplit : c.exceptionTable.toList = pre ++ x :: suf)
    (hpass : ∀ z ∈ pre, covers z pc = false ∨ (z.catchType ≠ 0 ∧ ∃ nm : String, (Cond.classLink own z.catchType nm).before args s = true ∧ va_Nc E nm s)) (hx : covers x pc = true) (h0 : x.catchType ≠ 0)
    (hlink : (Cond.classLink own x.catchType name).before args s = true) (hcast : (Cond.castable E name).before args s = true) (hcell : H[q]? = some ce) (hv : ce.vm = .none) (hcl : s.vm.findClass E = some ce.cls)
    (kk : W p l e R s m args below meth c H locs cells slots Q (F0 m x.handlerPc ls [.ref q])) : vx_W p l e R s m args below meth c H locs cells slots Q (F0 m pc ls rest) q := by
  intro T hT X
  have hpl : e.platform.magicAccessors = ({} : Platform).magicAccessors := by rw [X.admits.platform]
  obtain ⟨c3, c4, hc3, hc4, hasg⟩ := Cond.castable_spec hcast
  cases Option.some.inj (hc3.symm.trans hcl)
  obtain ⟨c5, hc5, hcl5⟩ := Cond.classLink_spec hown hlink e.platform hpl
  cases Option.some.inj (hc4.symm.trans hc5)
  obtain ⟨vm', X', st⟩ := X.thenCaughtThrough q (g := F0 m pc ls rest) rfl (Steps.refl _) (by rw [hT]; exact hcell) (by rw [hv]; rfl) (by obtain ⟨k9, h9, -⟩ := Vm.findClass_spec hcl; exact ⟨k9, h9⟩) pre x suf hsplit
    (fun z hz => by
      rcases hpass z hz with h | ⟨hz0, nm, hl1, hn1⟩
      · exact Or.inl h
      · obtain ⟨c6, hc6, hcl6⟩ := Cond.classLink_spec hown hl1 e.platform hpl
        obtain ⟨a8, b8, h1, h2, h3⟩ := hn1
        cases Option.some.inj (h1.symm.trans hcl)
        cases Option.some.inj (h2.symm.trans hc6)
        exact Or.inr ⟨hz0, _, hcl6, h3⟩) hx (Or.inr ⟨h0, c4, hcl5, hasg⟩)
  obtain ⟨t, a1, b1⟩ := kk (T.setVm vm') hT X'
  exact ⟨t, st.trans a1, b1⟩
end Rows
section Ends
variable {p : Program} {l : Launch} {e : Env} {R : Room} {s : State} {m : MethodId} {args : Array Value} {below : List Frame} {meth : Method} {c : Code} {H : Heap} {locs : List Loc} {cells slots : Nat} {Q : State → Prop}
variable {mc ms : Nat} {free : Addr → Prop} {A0 A1 : Nat → Prop} {H0 : Heap} {a : Array Value} {ls : Array Slot} {st0 rest : List Value}
variable {Qc : Array Value → State → Outcome → State → Prop} {XC : String → State → State → Prop}
/-- what a body that may throw owes at its end -/
def vx_MQ (below : List Frame) (Qc : Array Value → State → Outcome → State → Prop) (XC : String → State → State → Prop) (a : Array Value) (s : State) (mc ms : Nat) (free : Addr → Prop) : State → Prop := fun t =>
  ∃ o, t.status = .running ∧ Ended t below o ∧ vx_Q Qc XC mc ms free a s o t
theorem vx_ret {g : JFrame} {mc ms : Nat} (k : W p l e R s m args below meth c H locs cells slots (MQ below Qc args s mc ms free) g) : W p l e R s m args below meth c H locs cells slots (vx_MQ below Qc XC args s mc ms free) g := by
  intro T hT X
  obtain ⟨t, a1, o, b1, b2, b3, b4⟩ := k T hT X
  exact ⟨t, a1, o, b1, b2, Or.inl ⟨b3, b4⟩⟩
/-- not caught here: it goes on to the caller -/
theorem vx_widen {g : JFrame} {q : Addr} {k n : Nat} (h1 : cells ≤ k) (h2 : slots ≤ n) (kk : vx_W p l e R s m args below meth c H locs k n Q g q) : vx_W p l e R s m args below meth c H locs cells slots Q g q := fun T hT X => kk T hT (stand_widen X h1 h2)
theorem vx_out {pc : Nat} {E : String} {ce : Cell} {q : Addr} {mc ms : Nat} (hout : ∀ x ∈ c.exceptionTable.toList, covers x pc = false) (hlocks : meth.locks = false) (hcell : H[q]? = some ce) (hv : ce.vm = .none) (hcl : s.vm.findClass E = some ce.cls)
    (hx : ∀ t : State, t.heap = H → s.vm.Alike t.vm → XC E s t) (hf : ∀ z ∈ locs, free z.base) (hc : cells ≤ mc) (hs : slots ≤ ms) :
    vx_W p l e R s m args below meth c H locs cells slots (vx_MQ below Qc XC args s mc ms free) (F0 m pc ls rest) q := by
  intro T hT X
  obtain ⟨st1, hrun, hend, hW, hsm⟩ := X.leaveThrown q (g := F0 m pc ls rest) rfl rfl rfl hout hlocks
  have hcell9 : (T.setFrames (.throwing q :: below)).heap[q]? = some ce := by
    show T.heap[q]? = some ce
    rw [hT]; exact hcell
  exact ⟨_, st1, .threw q, hrun, hend, Or.inr ⟨q, rfl, E, ce, locs, hx _ hT hW.alike, hcell9, hv, hcl, hW, hsm.mono hc hs, hf⟩⟩
theorem vx_frame {U : State} {k n : Nat} (h : s.sameButNew ({ U with vm := s.vm } : State) locs k n) : s.heap.size ≤ U.heap.size ∧ ∀ q : Nat, q < s.heap.size → (∀ z ∈ locs, z.base ≠ q) → U.heap[q]? = s.heap[q]? := by
  obtain ⟨-, h2, -, -, -, h6⟩ := h
  refine ⟨h2, fun q hq hz => ?_⟩
  obtain ⟨c9, e1, e2, e3, e4⟩ := h6 q _ (Array.getElem?_eq_getElem hq)
  have hs : c9.slots = (s.heap[q]).slots := Array.ext_getElem? fun i => e4 i fun hm => hz _ hm rfl
  have h9 : c9 = s.heap[q] := by
    rw [hs] at e2
    exact e2
  have e5 : U.heap[q]? = some c9 := e1
  rw [e5, h9, Array.getElem?_eq_getElem hq]
/-- the words of a throw but the four that speak of the heap -/
def vx_no (w : Cond) : Bool := decide (w ≠ .isRef (.static Bundle.tN "UNASSIGNED_STACK" Bundle.steD)) && decide (w ≠ .isRef (.static Bundle.tN "SUPPRESSED_SENTINEL" Bundle.listD)) && decide (w ≠ .laysStatic Bundle.tN "UNASSIGNED_STACK" Bundle.steD) && decide (w ≠ .laysStatic Bundle.tN "SUPPRESSED_SENTINEL" Bundle.listD)
def vx_at0 (own : String) (ic : Nat) (X : String) (names : List String) : List Cond := (Bundle.ownAtoms0 own ic X names).filter vx_no
def vx_atS (own : String) (ic : Nat) (X : String) (names : List String) : List Cond := (Bundle.ownAtoms own ic X names).filter vx_no
/-- a word that the tables alone decide, or a good one -/
def vx_ot (w : Cond) : Bool := w.onTables || goodWord w
theorem vx_ot_at {args a' : Array Value} {s U : State} {w : Cond} (hW : s.WarmedH U.vm) (hvm : s.vm = U.vm) (hg : vx_ot w = true) (h : w.before args s = true) : w.before a' U = true := by
  simp only [vx_ot, Bool.or_eq_true] at hg
  rcases hg with hg | hg
  · exact va_tabs hg hvm h
  · exact word_at hW (good_of_word hg) h
/-- a list's words: the good ones out of the method's own list, the others by premises of their own -/
theorem vx_hat {args : Array Value} {s : State} {L B : List Cond} (h1 : ∀ w ∈ L.filter goodWord, w.before args s = true) (h2 : ∀ w ∈ L.filter (fun w => !goodWord w), w ∈ B) (h3 : ∀ w ∈ B, w.before args s = true) : ∀ w ∈ L, w.before args s = true := by
  intro w hw
  by_cases g : goodWord w = true
  · exact h1 w (List.mem_filter.mpr ⟨hw, g⟩)
  · refine h3 w (h2 w (List.mem_filter.mpr ⟨hw, ?_⟩))
    show (!goodWord w) = true
    cases hgw : goodWord w
    · rfl
    · exact absurd hgw g
theorem vx_c {args : Array Value} {s : State} {w : Cond} {B : List Cond} (h : w.before args s = true) (t : ∀ w ∈ B, w.before args s = true) : ∀ w' ∈ w :: B, w'.before args s = true := fun w' h' => (List.mem_cons.mp h').elim (fun e => by rw [e]; exact h) (t w')
theorem vx_n {args : Array Value} {s : State} : ∀ w ∈ ([] : List Cond), w.before args s = true := fun _ h => nomatch h
theorem vx_own {args : Array Value} {s : State} {L : List Cond} (h1 : ∀ w ∈ L.filter vx_no, w.before args s = true)
    (hU : (Cond.isRef (.static Bundle.tN "UNASSIGNED_STACK" Bundle.steD)).before args s = true) (hN : (Cond.isRef (.static Bundle.tN "SUPPRESSED_SENTINEL" Bundle.listD)).before args s = true)
    (lU : (Cond.laysStatic Bundle.tN "UNASSIGNED_STACK" Bundle.steD).before args s = true) (lN : (Cond.laysStatic Bundle.tN "SUPPRESSED_SENTINEL" Bundle.listD).before args s = true) : ∀ w ∈ L, w.before args s = true := by
  intro w hw
  by_cases e1 : w = .isRef (.static Bundle.tN "UNASSIGNED_STACK" Bundle.steD)
  · rw [e1]; exact hU
  · by_cases e2 : w = .isRef (.static Bundle.tN "SUPPRESSED_SENTINEL" Bundle.listD)
    · rw [e2]; exact hN
    · by_cases e3 : w = .laysStatic Bundle.tN "UNASSIGNED_STACK" Bundle.steD
      · rw [e3]; exact lU
      · by_cases e4 : w = .laysStatic Bundle.tN "SUPPRESSED_SENTINEL" Bundle.listD
        · rw [e4]; exact lN
        · exact h1 w (List.mem_filter.mpr ⟨hw, by unfold vx_no; rw [decide_eq_true e1, decide_eq_true e2, decide_eq_true e3, decide_eq_true e4]; rfl⟩)
/-- where a static field lies, its class's statics cell in H -/
def vx_L (C n d : String) (A : Nat → Prop) (U : State) (H : Heap) : Prop := ∃ (c : ClassId) (k : Class) (i : Nat) (f : Field) (a : Nat) (cell : Cell), U.vm.findClass C = some c ∧ U.fieldFound? C n d = some (c, k, i, f) ∧ f.isStatic = true ∧ k.statics = some a ∧ H[a]? = some cell ∧ cell.vm.isStatics = true ∧ cell.cls = c ∧ f.slot < cell.slots.size ∧ k.staticTypes[f.slot]? = some f.type ∧ ¬ A a
theorem vx_L.moved {C n d : String} {A : Nat → Prop} {u U : State} {H : Heap} (hvm : u.vm.Alike U.vm) (h : vx_L C n d A u H) : vx_L C n d A U H := by
  obtain ⟨c, k, i, f, a, cell, h1, h2, h3, h4, h5, h6, h7, h8, h9, h10⟩ := h
  obtain ⟨k', hi', he⟩ := State.fieldFound?_setVm hvm h2
  exact ⟨c, k', i, f, a, cell, by rw [hvm.findClass]; exact h1, hi', h3, by rw [he]; exact h4, h5, h6, h7, h8, by rw [he]; exact h9, h10⟩
theorem vx_L.kept {C n d : String} {A : Nat → Prop} {U : State} {H H1 : Heap} (h : vx_L C n d A U H) (hq : ∀ a : Nat, a < H.size → ¬ A a → H1[a]? = H[a]?) : vx_L C n d A U H1 := by
  obtain ⟨c, k, i, f, a, cell, h1, h2, h3, h4, h5, h6, h7, h8, h9, h10⟩ := h
  exact ⟨c, k, i, f, a, cell, h1, h2, h3, h4, by rw [hq a (Array.getElem?_eq_some_iff.mp h5).1 h10]; exact h5, h6, h7, h8, h9, h10⟩
theorem vx_L.narrow {C n d : String} {A B : Nat → Prop} {U : State} {H : Heap} (h : vx_L C n d A U H) (hAB : ∀ q, B q → A q) : vx_L C n d B U H := by
  obtain ⟨c, k, i, f, a, cell, h1, h2, h3, h4, h5, h6, h7, h8, h9, h10⟩ := h
  exact ⟨c, k, i, f, a, cell, h1, h2, h3, h4, h5, h6, h7, h8, h9, fun z => h10 (hAB _ z)⟩
theorem vx_L.word {C n d : String} {A : Nat → Prop} {s : State} {args : Array Value} (h : vx_L C n d A s s.heap) : (Cond.laysStatic C n d).before args s = true := by
  obtain ⟨c, k, i, f, a, cell, h1, h2, h3, h4, h5, h6, h7, h8, h9, -⟩ := h
  show (Cond.laysStatic C n d).holds args s none s [] = true
  exact Cond.laysStatic_of h1 h2 h3 h4 h5 h6 h7 h8 h9
/-- .. and what it holds: null or some reference -/
def vx_Zq (C n d : String) (A : Nat → Prop) (U : State) (H : Heap) : Prop := va_Zq C n d A U H ∧ vx_L C n d A U H
theorem vx_Zq.moved {C n d : String} {A : Nat → Prop} {u U : State} {H : Heap} (hvm : u.vm.Alike U.vm) (h : vx_Zq C n d A u H) : vx_Zq C n d A U H := ⟨va_Zq.moved hvm h.1, vx_L.moved hvm h.2⟩
theorem vx_Zq.kept {C n d : String} {A : Nat → Prop} {U : State} {H H1 : Heap} (h : vx_Zq C n d A U H) (hq : ∀ a : Nat, a < H.size → ¬ A a → H1[a]? = H[a]?) : vx_Zq C n d A U H1 := ⟨va_Zq.kept h.1 hq, vx_L.kept h.2 hq⟩
theorem vx_Zq.narrow {C n d : String} {A B : Nat → Prop} {U : State} {H : Heap} (h : vx_Zq C n d A U H) (hAB : ∀ q, B q → A q) : vx_Zq C n d B U H := ⟨va_Zq.narrow h.1 hAB, vx_L.narrow h.2 hAB⟩
theorem vx_Zqof {args : Array Value} {s : State} {C n d : String} {A : Nat → Prop} (hl : (Cond.laysStatic C n d).before args s = true) (hini : (Cond.initialized C).before args s = true) (h : (Cond.isRef (.static C n d)).before args s = true) (hA : ∀ a : Nat, a < s.heap.size → ¬ A a) : vx_Zq C n d A s s.heap := by
  refine ⟨va_Zqof hl hini h hA, ?_⟩
  obtain ⟨c, k, i, f, a, cell, h1, h2, h3, h4, h5, h6, h7, h8, h9⟩ := Cond.laysStatic_spec hl
  exact ⟨c, k, i, f, a, cell, h1, h2, h3, h4, h5, h6, h7, h8, h9, hA a (Array.getElem?_eq_some_iff.mp h5).1⟩
theorem vx_isRef {C n d : String} {v : Value} {A : Nat → Prop} {s : State} {args : Array Value} (h : va_Z C n d v A s s.heap) (hv : v.isRef = true) : (Cond.isRef (.static C n d)).before args s = true := by
  obtain ⟨cf, kf, fi, f, a, cell, h1, h2, h3, h4, h5, h6, h7, -⟩ := h
  have he : (Term.static C n d).eval args s none [] s = some v := by
    simp [Term.eval, State.fieldNamed?, h1, h2, h4, h5, h6, h7]
  simp only [Cond.before, Cond.holds, Cond.value, he]
  cases v <;> simp_all [Value.isRef]
theorem vx_isRefq {C n d : String} {A : Nat → Prop} {s : State} {args : Array Value} (h : va_Zq C n d A s s.heap) : (Cond.isRef (.static C n d)).before args s = true := by
  rcases h with h | ⟨t, h⟩
  · exact vx_isRef h rfl
  · exact vx_isRef h rfl
/-- the same frame, seen from here: as if the method were called anew in this heap -/
theorem vx_rebase {T : State} (X : Stand p l e R s m args below meth c T locs cells slots) {R' : Room} (hf : R'.frames ≤ R.frames) (hl : R'.locals ≤ R.locals) (hc : cells + R'.cells ≤ R.cells) (hs : slots + R'.slots ≤ R.slots) :
    Stand p l e R' ((T.setVm s.vm).setFrames (.invoking m args :: below)) m args below meth c T [] 0 0 := by
  have htop : (T.setVm s.vm).topJava?.isSome := X.here.top
  have hF : ((T.setVm s.vm).setFrames (.invoking m args :: below)).frames = .invoking m args :: below := State.frames_setFrames _ (State.cur_lt_of_top htop)
  obtain ⟨g₀, hg0⟩ := Option.isSome_iff_exists.mp htop
  obtain ⟨r, hr⟩ := State.topJava?_eq_some.mp hg0
  have hl9 : e.platform.stackLimits (T.setVm s.vm).me = e.platform.stackLimits s.me := X.limits
  have hb9 : (T.setVm s.vm).me.stackBytes = s.me.stackBytes := X.bytes
  refine ⟨X.admits, X.cas, X.clock, hF, ?_, X.hears, X.method, X.code, X.here, X.tail, X.warmed, ?_, ?_, ?_⟩
  · have h := X.room
    have hU : ((T.setVm s.vm).setFrames (.invoking m args :: below)).localsInUse = s.localsInUse := by
      rw [State.localsInUse_invoking hF (meth := meth) (c := c) X.method X.code, State.localsInUse_invoking X.frames X.method X.code]
    simp only [State.hasRoom, Bool.and_eq_true, decide_eq_true_eq] at h ⊢
    obtain ⟨⟨⟨⟨h1, h2, h3, h4, h5, h6⟩, h7⟩, h8⟩, h9⟩ := h
    rw [X.frames, List.length_cons] at h2 h3
    have q1 := X.heapSize
    have q2 := X.used
    simp only [hF, hU, List.length_cons, State.stackLimits_setFrames, State.stackBytes_setFrames, hl9, hb9]
    refine ⟨⟨⟨⟨by omega, by omega, by omega, by omega, by omega, h6⟩, ?_⟩, ?_⟩, X.book⟩
    · show T.heap.size + R'.cells ≤ e.platform.maxCells
      omega
    · show T.slotsUsed + R'.slots ≤ e.platform.maxSlots
      omega
  · rw [State.stackLimits_setFrames]; rfl
  · rw [State.stackBytes_setFrames]; rfl
  · refine ⟨?_, Nat.le_refl _, Nat.le_refl _, ?_, ?_, fun a c9 h9 => ⟨c9, h9, rfl, rfl, fun _ _ => rfl⟩⟩
    · obtain ⟨t, ht, -⟩ := State.frames_cons hr
      show T.setVm s.vm = { ((T.setVm s.vm).setFrames (.invoking m args :: below)).setFrames (T.setVm s.vm).frames with heap := T.heap, slotsUsed := T.slotsUsed }
      rw [State.setFrames_setFrames, State.setFrames_self ht]
      rfl
    · show T.slotsUsed = T.slotsUsed + ((T.heap.toList.drop T.heap.size).map (·.slots.size)).sum
      rw [List.drop_eq_nil_of_le (Nat.le_of_eq Array.length_toList)]
      rfl
    · show ((T.heap.toList.drop T.heap.size).map (·.slots.size)).sum ≤ 0
      rw [List.drop_eq_nil_of_le (Nat.le_of_eq Array.length_toList)]
      exact Nat.le_refl _
/-- 'throw new E()': new; dup; invokespecial; athrow -/
theorem vx_throw0 {cc : ByteArray} {pc : Nat} (hexec : p.tables.exec = Jvm.exec) (hb : c.code = cc) (hl : l.stackTraces = false) {own cls : String} {names : List String} {ik ic mc ms : Nat} {A : Nat → Prop}
    (hown : s.vm.findClass own = some m.cls) (hcls : Bundle.fit cls = true) (hnames : ∀ n ∈ names, Bundle.fit n = true)
    (hk : (Cond.classLink own ik cls).before args s = true) (hini : (Cond.initialized cls).before args s = true) (hat : ∀ w ∈ vx_at0 own ic cls names, w.before args s = true)
    (hgood : ∀ w ∈ Cond.classLink own ik cls :: Cond.initialized cls :: vx_at0 own ic cls names, vx_ot w = true)
    (hU : vx_Zq Bundle.tN "UNASSIGNED_STACK" Bundle.steD A s s.heap) (hN : vx_Zq Bundle.tN "SUPPRESSED_SENTINEL" Bundle.listD A s s.heap) (hS : va_S A s.heap H locs) (hsize : ls.size = c.maxLocals)
    (d0 : decode cc pc = .ok (.new ik, 3)) (d3 : decode cc (pc + 3) = .ok (.dup, 1)) (d4 : decode cc (pc + 4) = .ok (.invokespecial ic, 3)) (d7 : decode cc (pc + 7) = .ok (.athrow, 1))
    (hout : ∀ x ∈ c.exceptionTable.toList, covers x (pc + 7) = false)
    (hRframes : names.length + 3 < R.frames) (hRlocals : (rest.map fun v => v.category).sum + (13 * (names.length + 1) + 42) ≤ R.locals) (hRcells : cells + 1 ≤ R.cells) (hRslots : slots + 6 ≤ R.slots) (hlocks : meth.locks = false)
    (hx : ∀ t : State, s.vm.Alike t.vm → H.size ≤ t.heap.size → (∀ q : Nat, q < H.size → t.heap[q]? = H[q]?) → XC cls s t)
    (hf : ∀ z ∈ locs, free z.base) (hc : cells + 1 ≤ mc) (hs : slots + 6 ≤ ms) :
    W p l e R s m args below meth c H locs cells slots (vx_MQ below Qc XC args s mc ms free) (F0 m pc ls rest) := by
  intro T hT X
  have htr : e.platform.stackTraces = false := (show e.platform.stackTraces = l.stackTraces by rw [X.admits.platform]).trans hl
  have Y := vx_rebase X (R' := { frames := R.frames, locals := R.locals, cells := 1, slots := 6 }) (Nat.le_refl _) (Nat.le_refl _) hRcells hRslots
  obtain ⟨s', hA⟩ : ∃ z, z = (T.setVm s.vm).setFrames (.invoking m args :: below) := ⟨_, rfl⟩
  rw [← hA] at Y
  have hvm : s'.vm = s.vm := by rw [hA]; rfl
  have hhp : s'.heap = H := by rw [hA]; exact hT
  have hW0 : s.WarmedH s'.vm := by rw [hvm]; exact State.WarmedH.refl s
  have hat' : ∀ w ∈ vx_at0 own ic cls names, w.before args s' = true := fun w hw => vx_ot_at hW0 hvm.symm (hgood w (List.mem_cons_of_mem _ (List.mem_cons_of_mem _ hw))) (hat w hw)
  have hk' : (Cond.classLink own ik cls).before args s' = true := vx_ot_at hW0 hvm.symm (hgood _ List.mem_cons_self) hk
  have hini' : (Cond.initialized cls).before args s' = true := vx_ot_at hW0 hvm.symm (hgood _ (List.mem_cons_of_mem _ List.mem_cons_self)) hini
  have hU' : vx_Zq Bundle.tN "UNASSIGNED_STACK" Bundle.steD A s' s'.heap := by rw [hhp]; exact vx_Zq.moved hW0.alike (hU.kept hS.2.1)
  have hN' : vx_Zq Bundle.tN "SUPPRESSED_SENTINEL" Bundle.listD A s' s'.heap := by rw [hhp]; exact vx_Zq.moved hW0.alike (hN.kept hS.2.1)
  have h : ∀ w ∈ Bundle.ownAtoms0 own ic cls names, w.before args s' = true := vx_own hat' (vx_isRefq hU'.1) (vx_isRefq hN'.1) hU'.2.word hN'.2.word
  have hown' : s'.vm.findClass own = some m.cls := by rw [hvm]; exact hown
  have hins : (Cond.instantiable cls 6).before args s' = true := h _ (by simp [Bundle.ownAtoms0])
  obtain ⟨vm₁, cX, kX, hfX, hkX, -, -, X₁, st1⟩ := Y.newCold hexec (own := own) (C := cls) (index := ik) (n := 6) hown' hk' hins hini'
    (g := F0 m pc ls rest) rfl (by rw [hb]; exact d0) (Nat.le_refl _) (Nat.le_refl _)
  generalize hT1 : (T.setVm vm₁).pushCell { cls := cX, slots := kX.instanceTypes.map defaultValue, vm := .none } = T1 at X₁ st1
  have hcat : (Value.ref T.heap.size).category = 1 := rfl
  have hcellA : T1.heap[T.heap.size]? = some (freshCell cX kX) := by rw [← hT1]; exact State.heap_pushCell_size _ _
  have d3' : decode c.code (pc + 3) = .ok (.dup, 1) := by rw [hb]; exact d3
  obtain ⟨U, hsteps, hrun, hend, hW, hsame, ce, hce, hO⟩ := X₁.ctorThrow0 hexec htr (own := own) (cls := cls) (names := names) (ic := ic) hown' hcls hnames h (fun x hx => nomatch hx) hfX hkX hcellA (by rw [hhp, hT]; exact Nat.le_refl _)
    (g := { method := m, pc := pc + 4, locals := ls, stack := .ref T.heap.size :: .ref T.heap.size :: rest, locked := none }) rfl hsize rfl rfl (rest := rest) rfl
    (by rw [hb]; exact d4) (by rw [hb]; exact d7) hout hRframes (by simp only [List.map_cons, List.sum_cons, hcat]; omega) hlocks
  obtain ⟨f1, f2⟩ := vx_frame hsame
  rw [hhp] at f1 f2
  have hWs : s.WarmedH U.vm := State.WarmedH.trans hW0 hW
  have hcl : s.vm.findClass cls = some ce.cls := by
    have h9 := hO.cls
    rw [hvm] at h9
    exact h9
  have hall : s.sameButNew ({ U with vm := s.vm } : State) locs mc ms := by
    subst hA
    obtain ⟨e1, e2⟩ := hsame
    rw [State.setFrames_setFrames] at e1
    have h2 : (T.setVm s.vm).sameButNew ({ U with vm := s.vm } : State) [] (0 + 1) (0 + 6) := ⟨e1, e2⟩
    have h3 := X.same.trans h2
    rw [List.append_nil] at h3
    exact h3.mono hc hs
  refine ⟨U, ?_, .threw T.heap.size, hrun, hend, Or.inr ⟨T.heap.size, rfl, cls, ce, locs, hx U hWs.alike f1 (fun q hq => f2 q hq (fun z hz => nomatch hz)), hce, hO.vm, hcl, hWs, hall, hf⟩⟩
  refine st1 _ ?_
  show Steps p.tables e below (T1.setTop { method := m, pc := pc + 3, locals := ls, stack := .ref T.heap.size :: rest, locked := none }) _
  jvm_step X₁.here [X₁.here.top, hexec, d3', Value.category]
  exact hsteps
/-- 'throw new E("text")': new; dup; ldc; invokespecial; athrow -/
theorem vx_throwS {cc : ByteArray} {pc : Nat} (hexec : p.tables.exec = Jvm.exec) (hb : c.code = cc) (hl : l.stackTraces = false) {own cls text : String} {names : List String} {ik is ic mc ms sa : Nat} {A : Nat → Prop}
    (hown : s.vm.findClass own = some m.cls) (hcls : Bundle.fit cls = true) (hnames : ∀ n ∈ names, Bundle.fit n = true)
    (hk : (Cond.classLink own ik cls).before args s = true) (hini : (Cond.initialized cls).before args s = true) (hstr : vk_R own is text sa s) (hat : ∀ w ∈ vx_atS own ic cls names, w.before args s = true)
    (hgood : ∀ w ∈ Cond.classLink own ik cls :: Cond.initialized cls :: vx_atS own ic cls names, vx_ot w = true)
    (hU : vx_Zq Bundle.tN "UNASSIGNED_STACK" Bundle.steD A s s.heap) (hN : vx_Zq Bundle.tN "SUPPRESSED_SENTINEL" Bundle.listD A s s.heap) (hS : va_S A s.heap H locs) (hsize : ls.size = c.maxLocals)
    (d0 : decode cc pc = .ok (.new ik, 3)) (d3 : decode cc (pc + 3) = .ok (.dup, 1)) (d4 : decode cc (pc + 4) = .ok (.ldc is, 2)) (d6 : decode cc (pc + 6) = .ok (.invokespecial ic, 3)) (d9 : decode cc (pc + 9) = .ok (.athrow, 1))
    (hout : ∀ x ∈ c.exceptionTable.toList, covers x (pc + 9) = false)
    (hRframes : names.length + 3 < R.frames) (hRlocals : (rest.map fun v => v.category).sum + (13 * (names.length + 1) + 43) ≤ R.locals) (hRcells : cells + 1 ≤ R.cells) (hRslots : slots + 6 ≤ R.slots) (hlocks : meth.locks = false)
    (hx : ∀ t : State, s.vm.Alike t.vm → H.size ≤ t.heap.size → (∀ q : Nat, q < H.size → t.heap[q]? = H[q]?) → XC cls s t)
    (hf : ∀ z ∈ locs, free z.base) (hc : cells + 1 ≤ mc) (hs : slots + 6 ≤ ms) :
    W p l e R s m args below meth c H locs cells slots (vx_MQ below Qc XC args s mc ms free) (F0 m pc ls rest) := by
  intro T hT X
  have htr : e.platform.stackTraces = false := (show e.platform.stackTraces = l.stackTraces by rw [X.admits.platform]).trans hl
  have Y := vx_rebase X (R' := { frames := R.frames, locals := R.locals, cells := 1, slots := 6 }) (Nat.le_refl _) (Nat.le_refl _) hRcells hRslots
  obtain ⟨s', hA⟩ : ∃ z, z = (T.setVm s.vm).setFrames (.invoking m args :: below) := ⟨_, rfl⟩
  rw [← hA] at Y
  have hvm : s'.vm = s.vm := by rw [hA]; rfl
  have hhp : s'.heap = H := by rw [hA]; exact hT
  have hW0 : s.WarmedH s'.vm := by rw [hvm]; exact State.WarmedH.refl s
  have hat' : ∀ w ∈ vx_atS own ic cls names, w.before args s' = true := fun w hw => vx_ot_at hW0 hvm.symm (hgood w (List.mem_cons_of_mem _ (List.mem_cons_of_mem _ hw))) (hat w hw)
  have hk' : (Cond.classLink own ik cls).before args s' = true := vx_ot_at hW0 hvm.symm (hgood _ List.mem_cons_self) hk
  have hini' : (Cond.initialized cls).before args s' = true := vx_ot_at hW0 hvm.symm (hgood _ (List.mem_cons_of_mem _ List.mem_cons_self)) hini
  have hU' : vx_Zq Bundle.tN "UNASSIGNED_STACK" Bundle.steD A s' s'.heap := by rw [hhp]; exact vx_Zq.moved hW0.alike (hU.kept hS.2.1)
  have hN' : vx_Zq Bundle.tN "SUPPRESSED_SENTINEL" Bundle.listD A s' s'.heap := by rw [hhp]; exact vx_Zq.moved hW0.alike (hN.kept hS.2.1)
  have h : ∀ w ∈ Bundle.ownAtoms own ic cls names, w.before args s' = true := vx_own hat' (vx_isRefq hU'.1) (vx_isRefq hN'.1) hU'.2.word hN'.2.word
  have hown' : s'.vm.findClass own = some m.cls := by rw [hvm]; exact hown
  have hins : (Cond.instantiable cls 6).before args s' = true := h _ (by simp [Bundle.ownAtoms])
  obtain ⟨vm₁, cX, kX, hfX, hkX, -, -, X₁, st1⟩ := Y.newCold hexec (own := own) (C := cls) (index := ik) (n := 6) hown' hk' hins hini'
    (g := F0 m pc ls rest) rfl (by rw [hb]; exact d0) (Nat.le_refl _) (Nat.le_refl _)
  generalize hT1 : (T.setVm vm₁).pushCell { cls := cX, slots := kX.instanceTypes.map defaultValue, vm := .none } = T1 at X₁ st1
  have hcat : (Value.ref T.heap.size).category = 1 := rfl
  have hcellA : T1.heap[T.heap.size]? = some (freshCell cX kX) := by rw [← hT1]; exact State.heap_pushCell_size _ _
  have d3' : decode c.code (pc + 3) = .ok (.dup, 1) := by rw [hb]; exact d3
  have d4' : decode c.code (pc + 4) = .ok (.ldc is, 2) := by rw [hb]; exact d4
  have hstr' : vk_R own is text sa s' := vk_R.warm hW0 hstr
  obtain ⟨U, hsteps, hrun, hend, hW, hsame, ce, hce, hO⟩ := X₁.ctorThrowS hexec htr (own := own) (cls := cls) (names := names) (ic := ic) hown' hcls hnames h (fun x hx => nomatch hx) hfX hkX hcellA (by rw [hhp, hT]; exact Nat.le_refl _) (msg := .ref sa) rfl
    (g := { method := m, pc := pc + 6, locals := ls, stack := .ref sa :: .ref T.heap.size :: .ref T.heap.size :: rest, locked := none }) rfl hsize rfl rfl (rest := rest) rfl
    (by rw [hb]; exact d6) (by rw [hb]; exact d9) hout hRframes (by simp only [List.map_cons, List.sum_cons, hcat]; omega) hlocks
  obtain ⟨f1, f2⟩ := vx_frame hsame
  rw [hhp] at f1 f2
  have hWs : s.WarmedH U.vm := State.WarmedH.trans hW0 hW
  have hcl : s.vm.findClass cls = some ce.cls := by
    have h9 := hO.cls
    rw [hvm] at h9
    exact h9
  have hall : s.sameButNew ({ U with vm := s.vm } : State) locs mc ms := by
    subst hA
    obtain ⟨e1, e2⟩ := hsame
    rw [State.setFrames_setFrames] at e1
    have h2 : (T.setVm s.vm).sameButNew ({ U with vm := s.vm } : State) [] (0 + 1) (0 + 6) := ⟨e1, e2⟩
    have h3 := X.same.trans h2
    rw [List.append_nil] at h3
    exact h3.mono hc hs
  refine ⟨U, ?_, .threw T.heap.size, hrun, hend, Or.inr ⟨T.heap.size, rfl, cls, ce, locs, hx U hWs.alike f1 (fun q hq => f2 q hq (fun z hz => nomatch hz)), hce, hO.vm, hcl, hWs, hall, hf⟩⟩
  refine st1 _ ?_
  show Steps p.tables e below (T1.setTop { method := m, pc := pc + 3, locals := ls, stack := .ref T.heap.size :: rest, locked := none }) _
  jvm_step X₁.here [X₁.here.top, hexec, d3', Value.category]
  exact X₁.ldcString hexec (own := own) (text := text) (index := is) (a := sa) hown' hstr'.1 hstr'.2
    (g := { method := m, pc := pc + 4, locals := ls, stack := .ref T.heap.size :: .ref T.heap.size :: rest, locked := none }) rfl d4' _ hsteps
/-- 'throw new E("text")', the text by a wide index -/
theorem vx_throwSW {cc : ByteArray} {pc : Nat} (hexec : p.tables.exec = Jvm.exec) (hb : c.code = cc) (hl : l.stackTraces = false) {own cls text : String} {names : List String} {ik is ic mc ms sa : Nat} {A : Nat → Prop}
    (hown : s.vm.findClass own = some m.cls) (hcls : Bundle.fit cls = true) (hnames : ∀ n ∈ names, Bundle.fit n = true)
    (hk : (Cond.classLink own ik cls).before args s = true) (hini : (Cond.initialized cls).before args s = true) (hstr : vk_R own is text sa s) (hat : ∀ w ∈ vx_atS own ic cls names, w.before args s = true)
    (hgood : ∀ w ∈ Cond.classLink own ik cls :: Cond.initialized cls :: vx_atS own ic cls names, vx_ot w = true)
    (hU : vx_Zq Bundle.tN "UNASSIGNED_STACK" Bundle.steD A s s.heap) (hN : vx_Zq Bundle.tN "SUPPRESSED_SENTINEL" Bundle.listD A s s.heap) (hS : va_S A s.heap H locs) (hsize : ls.size = c.maxLocals)
    (d0 : decode cc pc = .ok (.new ik, 3)) (d3 : decode cc (pc + 3) = .ok (.dup, 1)) (d4 : decode cc (pc + 4) = .ok (.ldc_w is, 3)) (d7 : decode cc (pc + 7) = .ok (.invokespecial ic, 3)) (d10 : decode cc (pc + 10) = .ok (.athrow, 1))
    (hout : ∀ x ∈ c.exceptionTable.toList, covers x (pc + 10) = false)
    (hRframes : names.length + 3 < R.frames) (hRlocals : (rest.map fun v => v.category).sum + (13 * (names.length + 1) + 43) ≤ R.locals) (hRcells : cells + 1 ≤ R.cells) (hRslots : slots + 6 ≤ R.slots) (hlocks : meth.locks = false)
    (hx : ∀ t : State, s.vm.Alike t.vm → H.size ≤ t.heap.size → (∀ q : Nat, q < H.size → t.heap[q]? = H[q]?) → XC cls s t)
    (hf : ∀ z ∈ locs, free z.base) (hc : cells + 1 ≤ mc) (hs : slots + 6 ≤ ms) :
    W p l e R s m args below meth c H locs cells slots (vx_MQ below Qc XC args s mc ms free) (F0 m pc ls rest) := by
  intro T hT X
  have htr : e.platform.stackTraces = false := (show e.platform.stackTraces = l.stackTraces by rw [X.admits.platform]).trans hl
  have Y := vx_rebase X (R' := { frames := R.frames, locals := R.locals, cells := 1, slots := 6 }) (Nat.le_refl _) (Nat.le_refl _) hRcells hRslots
  obtain ⟨s', hA⟩ : ∃ z, z = (T.setVm s.vm).setFrames (.invoking m args :: below) := ⟨_, rfl⟩
  rw [← hA] at Y
  have hvm : s'.vm = s.vm := by rw [hA]; rfl
  have hhp : s'.heap = H := by rw [hA]; exact hT
  have hW0 : s.WarmedH s'.vm := by rw [hvm]; exact State.WarmedH.refl s
  have hat' : ∀ w ∈ vx_atS own ic cls names, w.before args s' = true := fun w hw => vx_ot_at hW0 hvm.symm (hgood w (List.mem_cons_of_mem _ (List.mem_cons_of_mem _ hw))) (hat w hw)
  have hk' : (Cond.classLink own ik cls).before args s' = true := vx_ot_at hW0 hvm.symm (hgood _ List.mem_cons_self) hk
  have hini' : (Cond.initialized cls).before args s' = true := vx_ot_at hW0 hvm.symm (hgood _ (List.mem_cons_of_mem _ List.mem_cons_self)) hini
  have hU' : vx_Zq Bundle.tN "UNASSIGNED_STACK" Bundle.steD A s' s'.heap := by rw [hhp]; exact vx_Zq.moved hW0.alike (hU.kept hS.2.1)
  have hN' : vx_Zq Bundle.tN "SUPPRESSED_SENTINEL" Bundle.listD A s' s'.heap := by rw [hhp]; exact vx_Zq.moved hW0.alike (hN.kept hS.2.1)
  have h : ∀ w ∈ Bundle.ownAtoms own ic cls names, w.before args s' = true := vx_own hat' (vx_isRefq hU'.1) (vx_isRefq hN'.1) hU'.2.word hN'.2.word
  have hown' : s'.vm.findClass own = some m.cls := by rw [hvm]; exact hown
  have hins : (Cond.instantiable cls 6).before args s' = true := h _ (by simp [Bundle.ownAtoms])
  obtain ⟨vm₁, cX, kX, hfX, hkX, -, -, X₁, st1⟩ := Y.newCold hexec (own := own) (C := cls) (index := ik) (n := 6) hown' hk' hins hini'
    (g := F0 m pc ls rest) rfl (by rw [hb]; exact d0) (Nat.le_refl _) (Nat.le_refl _)
  generalize hT1 : (T.setVm vm₁).pushCell { cls := cX, slots := kX.instanceTypes.map defaultValue, vm := .none } = T1 at X₁ st1
  have hcat : (Value.ref T.heap.size).category = 1 := rfl
  have hcellA : T1.heap[T.heap.size]? = some (freshCell cX kX) := by rw [← hT1]; exact State.heap_pushCell_size _ _
  have d3' : decode c.code (pc + 3) = .ok (.dup, 1) := by rw [hb]; exact d3
  have d4' : decode c.code (pc + 4) = .ok (.ldc_w is, 3) := by rw [hb]; exact d4
  have hstr' : vk_R own is text sa s' := vk_R.warm hW0 hstr
  obtain ⟨U, hsteps, hrun, hend, hW, hsame, ce, hce, hO⟩ := X₁.ctorThrowS hexec htr (own := own) (cls := cls) (names := names) (ic := ic) hown' hcls hnames h (fun x hx => nomatch hx) hfX hkX hcellA (by rw [hhp, hT]; exact Nat.le_refl _) (msg := .ref sa) rfl
    (g := { method := m, pc := pc + 7, locals := ls, stack := .ref sa :: .ref T.heap.size :: .ref T.heap.size :: rest, locked := none }) rfl hsize rfl rfl (rest := rest) rfl
    (by rw [hb]; exact d7) (by rw [hb]; exact d10) hout hRframes (by simp only [List.map_cons, List.sum_cons, hcat]; omega) hlocks
  obtain ⟨f1, f2⟩ := vx_frame hsame
  rw [hhp] at f1 f2
  have hWs : s.WarmedH U.vm := State.WarmedH.trans hW0 hW
  have hcl : s.vm.findClass cls = some ce.cls := by
    have h9 := hO.cls
    rw [hvm] at h9
    exact h9
  have hall : s.sameButNew ({ U with vm := s.vm } : State) locs mc ms := by
    subst hA
    obtain ⟨e1, e2⟩ := hsame
    rw [State.setFrames_setFrames] at e1
    have h2 : (T.setVm s.vm).sameButNew ({ U with vm := s.vm } : State) [] (0 + 1) (0 + 6) := ⟨e1, e2⟩
    have h3 := X.same.trans h2
    rw [List.append_nil] at h3
    exact h3.mono hc hs
  refine ⟨U, ?_, .threw T.heap.size, hrun, hend, Or.inr ⟨T.heap.size, rfl, cls, ce, locs, hx U hWs.alike f1 (fun q hq => f2 q hq (fun z hz => nomatch hz)), hce, hO.vm, hcl, hWs, hall, hf⟩⟩
  refine st1 _ ?_
  show Steps p.tables e below (T1.setTop { method := m, pc := pc + 3, locals := ls, stack := .ref T.heap.size :: rest, locked := none }) _
  jvm_step X₁.here [X₁.here.top, hexec, d3', Value.category]
  exact X₁.ldcStringW hexec (own := own) (text := text) (index := is) (a := sa) hown' hstr'.1 hstr'.2
    (g := { method := m, pc := pc + 4, locals := ls, stack := .ref T.heap.size :: .ref T.heap.size :: rest, locked := none }) rfl d4' _ hsteps
end Ends
section Bodies
variable {l : Launch}
theorem vx_ofW {y : MethodName} {ws ws' : List Cond} {rm : Room} {Pc : Array Value → State → Prop} {Qc : Array Value → State → Outcome → State → Prop} {XC : String → State → State → Prop} {mc ms : Nat} {free : Addr → Prop} {cc : ByteArray} {maxL : Nat} {ret : Option FieldType}
    (hy : plainName y.cls = true) (hw : ws = Cond.code y cc maxL ret :: ws')
    (body : ∀ p e s m args below meth c s₁, BodyLoose p l y (headSpec ws rm) cc maxL ret e s m args below meth c s₁ → c.maxLocals = maxL → (∀ x ∈ c.exceptionTable.toList, False) → Pc args s →
      W p l e (headSpec ws rm).room s m args below meth c s.heap [] 0 0 (vx_MQ below Qc XC args s mc ms free) (entryFrame m args maxL)) : vx_Met l y ws rm Pc Qc XC mc ms free := by
  refine MetFree.of_bodyS (code := cc) (maxLocals := maxL) (ret := ret) hy ?_ ?_
  · intro args s m h hn
    obtain ⟨meth, c, h1, h2, h3, h4, h5, h6, -, -⟩ := Cond.code_spec hn (atoms_spec (ws := ws) h _ (by rw [hw]; exact List.mem_cons_self))
    exact ⟨meth, c, h1, h2, h3, h4, h5, h6⟩
  · intro p e s m args below meth c s₁ B hml hP _
    have hh0 : s₁.heap = s.heap := by rw [B.state]; rfl
    have ht : ∀ x ∈ c.exceptionTable.toList, False := by
      obtain ⟨meth9, c9, h1, h2, -, -, -, -, h7, -⟩ := Cond.code_spec B.named (atoms_spec (ws := ws) B.pre _ (by rw [hw]; exact List.mem_cons_self))
      cases Option.some.inj (h1.symm.trans B.method)
      cases Option.some.inj (h2.symm.trans (Stand.of_body B).code)
      intro x hx
      rw [Array.isEmpty_iff.mp h7] at hx
      cases hx
    obtain ⟨t, a1, o, b1, b2, b3⟩ := body p e s m args below meth c s₁ B hml ht hP s₁ hh0 (Stand.of_body B)
    exact ⟨t, o, a1, b1, b2, b3⟩
/-- the table of a body with handlers -/
theorem vx_table {p : Program} {x y : MethodName} {S : Spec} {cc bytes : ByteArray} {maxL maxL' : Nat} {ret ret' : Option FieldType} {e : Env} {s s₁ : State} {m : MethodId} {args : Array Value} {below : List Frame} {meth : Method} {c : Code} {hh : List (Nat × Nat × Nat × Nat)}
    (B : BodyLoose p l y S cc maxL ret e s m args below meth c s₁) (h : (Cond.codeWith y bytes maxL' ret' hh).before args s = true) : c.exceptionTable.toList = tableOf hh := by
  obtain ⟨m9, meth9, c9, hn9, h1, h2, -, -, h6, -⟩ := Cond.codeWith_spec h
  cases Option.some.inj (hn9.symm.trans B.named)
  cases Option.some.inj (h1.symm.trans B.method)
  cases Option.some.inj (h2.symm.trans (Stand.of_body B).code)
  rw [← h6, table_eq]
end Bodies
end VXA
/-! ===== END ===== -/
/-! ===== BEGIN a static call of a method with an exception table ===== -/
section VXS
variable {p : Program} {l : Launch} {e : Env} {R : Room} {s : State} {m : MethodId} {args : Array Value} {below : List Frame} {meth : Method} {c : Code} {T : State} {H : Heap} {locs : List Loc} {cells slots : Nat}
abbrev vx_CSW (R : Room) (s : State) (args : Array Value) (own : String) (index : Nat) (y : MethodName) (bytes : ByteArray) (maxL : Nat) (ret : Option FieldType) (hh : List (Nat × Nat × Nat × Nat)) (ws : List Cond) (rm : Room) (mc ms n : Nat) : Prop :=
  (rm.cells = mc ∧ rm.slots = ms ∧ rm.frames + 1 ≤ R.frames ∧ 8 + (maxL + 11) + rm.locals ≤ R.locals ∧ (∀ w ∈ ws, ∀ (a' : Array Value) (U : State), s.WarmedH U.vm → w.before a' U = true) ∧ Cond.codeWith y bytes maxL ret hh ∈ ws) ∧
  (Cond.codeWith y bytes maxL ret hh).before args s = true ∧ (Cond.initialized y.cls).before args s = true ∧ (y.cls ≠ "java/lang/invoke/MethodHandle" ∧ y.cls ≠ "java/lang/invoke/VarHandle") ∧
  (∀ sig, parseMethodDescriptor y.desc = some sig → n = sig.parameters.length) ∧ (Cond.methodLink own index y).before args s = true ∧ (Cond.static y).before args s = true
theorem vx_cwSW {own : String} {index maxL mc ms : Nat} {y : MethodName} {bytes : ByteArray} {ret : Option FieldType} {hh : List (Nat × Nat × Nat × Nat)} {Ts ws ws' : List Cond} {rm : Room} (n : Nat) (ht : ∀ w ∈ Ts, w.before args s = true) (hT : GoodIn Ts (va_wsS own index y ws)) (hw : ws = Cond.codeWith y bytes maxL ret hh :: ws') (hrc : rm.cells = mc) (hrs : rm.slots = ms)
    (hd : y.cls ≠ "java/lang/invoke/MethodHandle" ∧ y.cls ≠ "java/lang/invoke/VarHandle" ∧ (parseMethodDescriptor y.desc).map (fun d => d.parameters.length) = some n) (hR : rm.frames + 1 ≤ R.frames ∧ 8 + (maxL + 11) + rm.locals ≤ R.locals) :
    vx_CSW R s args own index y bytes maxL ret hh ws rm mc ms n := by
  have ok : ∀ w ∈ va_wsS own index y ws, w.before args s = true := fun w h => ht w (hT w h).1
  have hG : GoodIn Ts ws := fun w h => hT w (by unfold va_wsS; exact List.mem_append_right _ h)
  have hc : Cond.codeWith y bytes maxL ret hh ∈ ws := by rw [hw]; exact List.mem_cons_self
  refine ⟨⟨hrc, hrs, hR.1, hR.2, pay_in ht hG, hc⟩, ht _ (hG _ hc).1, ok _ (by simp [va_wsS]), ⟨hd.1, hd.2.1⟩, fun sig h => ?_, ok _ (by simp [va_wsS]), ok _ (by simp [va_wsS])⟩
  have h2 := hd.2.2
  rw [h] at h2
  exact (Option.some.inj h2).symm
theorem vx_callSW (X : Stand p l e R s m args below meth c T locs cells slots) (hexec : p.tables.exec = Jvm.exec) {own : String} {index : Nat} {y : MethodName} {bytes : ByteArray} {maxL : Nat} {ret : Option FieldType} {hh : List (Nat × Nat × Nat × Nat)}
    (hown : s.vm.findClass own = some m.cls) (hlink : (Cond.methodLink own index y).before args s = true) (hstat : (Cond.static y).before args s = true) (hinit : (Cond.initialized y.cls).before args s = true)
    (hcode : (Cond.codeWith y bytes maxL ret hh).before args s = true) (hy : y.cls ≠ "java/lang/invoke/MethodHandle" ∧ y.cls ≠ "java/lang/invoke/VarHandle")
    {W9 : Nat} {Pre : Pt → Array Value → Prop} {Post : Pt → Array Value → Option Value → Pt → Prop} (hK : Back l R p e below s args y 3 W9 Pre Post)
    {g : JFrame} (hg : g.method = m) (hsize : g.locals.size = c.maxLocals) {argsL rest : List Value} (hlen : ∀ sig, parseMethodDescriptor y.desc = some sig → argsL.length = sig.parameters.length)
    (hstack : g.stack = argsL.reverse ++ rest) (hW : 2 * g.monitorRoom + (rest.map fun v => v.category).sum ≤ W9) (hdg : decode c.code g.pc = .ok (.invokestatic index, 3))
    (hpre : ∀ vm₁, s.WarmedH vm₁ → Pre ⟨T.setVm vm₁, locs, cells, slots⟩ argsL.toArray) :
    ∃ (v : Option Value) (vm₁ : Vm) (B : Pt), s.WarmedH vm₁ ∧ Stand p l e R s m args below meth c B.U B.locs B.cells B.slots ∧ Post ⟨T.setVm vm₁, locs, cells, slots⟩ argsL.toArray v B ∧
      ∀ target, Steps p.tables e below (B.U.setTop { g with pc := g.pc + 3, stack := v.toList ++ rest }) target → Steps p.tables e below (T.setTop g) target := by
  obtain ⟨mk, methM, cM, hnamed, hmethM, -, -, -, -, -, -, hsigM⟩ := Cond.codeWith_spec hcode
  have hstatic : methM.isStatic = true := Cond.static_spec hnamed hmethM hstat
  obtain ⟨kP, hkP, -⟩ := className_of_methodNamed hnamed
  have hinitP : kP.init = .initialized := Cond.initialized_spec (findClass_of_methodNamed hnamed) hkP hinit
  obtain ⟨vm₁, X₁, hstep₁⟩ := X.invokestatic hexec hown hlink hnamed hmethM hstatic hkP hinitP hy (g := g) hg (argsL := argsL) (rest := rest) (hlen _ hsigM) hstack hdg
  obtain ⟨v, B, X', hpost, hsteps⟩ := hK m meth c ⟨T.setVm vm₁, locs, cells, slots⟩ { g with stack := rest } (.invokestatic index) mk argsL.toArray X₁ hg hsize hdg hW (X₁.named hnamed) (hpre vm₁ X₁.warmed)
  exact ⟨v, vm₁, B, X₁.warmed, X', hpost, fun target h => hstep₁ _ fun acts => by rw [doInvoke_state]; exact hsteps.trans h⟩
theorem vx_runSW {y : MethodName} {bytes cc : ByteArray} {maxL nL mc ms n index : Nat} {ret : Option FieldType} {hh : List (Nat × Nat × Nat × Nat)} {ws : List Cond} {rm : Room} {Pc : Array Value → State → Prop} {Qc : Array Value → State → Outcome → State → Prop} {free : Addr → Prop} {Ts : List Cond} {own : String} {As rest : List Value} {g : JFrame}
    (S : CallFix p m c cc nL s args Ts own) (hM : Met l y ws rm Pc Qc mc ms free) (cw : vx_CSW R s args own index y bytes maxL ret hh ws rm mc ms n) (hp : PreS s H Pc As)
    (hg : g.method = m) (hn : As.length = n) (hsize : g.locals.size = nL) (hstack : g.stack = As.reverse ++ rest) (hW : 2 * g.monitorRoom + (rest.map fun v => v.category).sum ≤ 8) (hdg : decode cc g.pc = .ok (.invokestatic index, 3)) (hf : cells + mc ≤ R.cells ∧ slots + ms ≤ R.slots) :
    va_Run p l e R s m args below meth c H locs cells slots mc ms g rest (Qc As.toArray) (free) := by
  obtain ⟨⟨hrc, hrs, hfr, hlo, hws, hcw⟩, hcode, hini, hy, hlen, hl, hstt⟩ := cw
  have hK : Back l R p e below s args y 3 8 (PreOf R mc ms Pc) (PostOf Qc mc ms free) := va_backW (hh := hh) (bytes := bytes) (maxL := maxL) (ret := ret) hM hp.1 hrc hrs hfr hlo hws hcw (fun a' U hW => word_at hW (Or.inl (by first | rfl | simp [Cond.onTables, Cond.keeps, Cond.steady])) hini)
  obtain ⟨hx, hb, hml, ho, -⟩ := S
  intro T hT X
  obtain ⟨v, vm₁, ⟨U', l2, c2, s2⟩, hW₁, X', ⟨g', mk, t, L, e1, e2, hq, h1, hL, h2, h3⟩, st⟩ := vx_callSW X hx (hh := hh) (bytes := bytes) (maxL := maxL) (ret := ret) ho hl hstt hini hcode hy hK hg (hsize.trans hml.symm) (argsL := As) (rest := rest) (fun sig h => hn.trans (hlen sig h)) hstack hW (by rw [hb]; exact hdg)
    (fun vm₁ hW₁ => ⟨hf.1, hf.2, hp.2 (T.setVm vm₁) hT hW₁⟩)
  dsimp only [Pt.U, Pt.locs, Pt.cells, Pt.slots] at X' e1 e2 h1 h2 h3 st
  subst h1; subst h2; subst h3
  exact ⟨v, (T.setVm vm₁).calling g' mk As.toArray, t, U', L, hT, X', hL, e1, e2, hq, st⟩
/-- not caught here, past rows that name other classes: it goes on to the caller -/
theorem vx_outP {p : Program} {l : Launch} {e : Env} {R : Room} {s : State} {m : MethodId} {args : Array Value} {below : List Frame} {meth : Method} {c : Code} {H : Heap} {locs : List Loc} {cells slots : Nat} {free : Addr → Prop} {ls : Array Slot} {rest : List Value} {Qc : Array Value → State → Outcome → State → Prop} {XC : String → State → State → Prop}
    {pc : Nat} {own E : String} {ce : Cell} {q : Addr} {mc ms : Nat} (hown : s.vm.findClass own = some m.cls) (hlocks : meth.locks = false)
    (hpass : ∀ z ∈ c.exceptionTable.toList, covers z pc = false ∨ (z.catchType ≠ 0 ∧ ∃ nm : String, (Cond.classLink own z.catchType nm).before args s = true ∧ va_Nc E nm s)) (hcell : H[q]? = some ce) (hv : ce.vm = .none) (hcl : s.vm.findClass E = some ce.cls)
    (hx : ∀ t : State, t.heap = H → s.vm.Alike t.vm → XC E s t) (hf : ∀ z ∈ locs, free z.base) (hc : cells ≤ mc) (hs : slots ≤ ms) :
    vx_W p l e R s m args below meth c H locs cells slots (vx_MQ below Qc XC args s mc ms free) (F0 m pc ls rest) q := by
  intro T hT X
  have hpl : e.platform.magicAccessors = ({} : Platform).magicAccessors := by rw [X.admits.platform]
  obtain ⟨vm', hW', X', st⟩ := X.outThrough hlocks q (g := F0 m pc ls rest) rfl rfl rfl (cell := ce) (by rw [hT]; exact hcell) (by rw [hv]; rfl)
    (by obtain ⟨k9, h9, -⟩ := Vm.findClass_spec hcl; exact ⟨k9, h9⟩) (fun z hz => by
      rcases hpass z hz with h | ⟨hz0, nm, hl1, hn1⟩
      · exact Or.inl h
      · obtain ⟨c6, hc6, hcl6⟩ := Cond.classLink_spec hown hl1 e.platform hpl
        obtain ⟨a8, b8, h1, h2, h3⟩ := hn1
        cases Option.some.inj (h1.symm.trans hcl)
        cases Option.some.inj (h2.symm.trans hc6)
        exact Or.inr ⟨hz0, _, hcl6, h3⟩)
  obtain ⟨g₀, hfr⟩ := X'.frames_eq
  have hcell9 : ((T.setVm vm').setFrames (.throwing q :: below)).heap[q]? = some ce := by
    show T.heap[q]? = some ce
    rw [hT]; exact hcell
  have hend : Ended ((T.setVm vm').setFrames (.throwing q :: below)) below (.threw q) := State.frames_setFrames _ (State.cur_lt_of_frames hfr)
  refine ⟨(T.setVm vm').setFrames (.throwing q :: below), ?_, .threw q, X'.here.running, hend, Or.inr ⟨q, rfl, E, ce, locs, hx _ hT (X'.ends _).1.alike, hcell9, hv, hcl, (X'.ends _).1, (X'.ends _).2.mono hc hs, hf⟩⟩
  rw [X.pushThrowing_eq]
  exact st
/-- a thing of a world lies in the heap -/
theorem vx_lt {D : va_G} {cl : List vw_C} {ws : va_W} {H1 : Heap} (h : va_P D cl ws H1) {k : Nat} {q : Nat × va_E} (hk : ws[k]? = some q) : q.1 < H1.size := (h k q hk).lt
end VXS
/-! ===== END ===== -/
/-! ===== BEGIN methods with a table of their own: called by a name, returning or throwing ===== -/
section VXH
/-! vx_backW, vx_callVX, vx_callSX, vx_callVW, vx_runVW, vx_runVX, vx_runSX, vx_ofWH follow the same proofs as their sisters above (Free/Laws.lean, Shelf42/LK1.lean); vx_outP calls Shelf42/NT130.lean (outThrough). -/
section
variable {l : Launch} {R : Room} {p : Program} {e : Env} {below : List Frame} {s : State} {sargs : Array Value} {y : MethodName} {len W9 : Nat}
theorem vx_backW {ws : List Cond} {rm : Room} {Pc : Array Value → State → Prop} {Qc : Array Value → State → Outcome → State → Prop} {XC : String → State → State → Prop} {mc ms : Nat} {free : Addr → Prop} {bytes : ByteArray} {maxL : Nat} {ret : Option FieldType} {hh : List (Nat × Nat × Nat × Nat)}
    (hM : vx_Met l y ws rm Pc Qc XC mc ms free) (hblind : FrameBlind Pc) (hrc : rm.cells = mc) (hrs : rm.slots = ms)
    (hframes : rm.frames + 1 ≤ R.frames) (hlocals : W9 + (maxL + 11) + rm.locals ≤ R.locals)
    (hws : ∀ w ∈ ws, ∀ a' U, s.WarmedH U.vm → w.before a' U = true) (hcode : Cond.codeWith y bytes maxL ret hh ∈ ws) (hinit : ∀ a' U, s.WarmedH U.vm → (Cond.initialized y.cls).before a' U = true) :
    vx_Back l R p e below s sargs y len W9 (PreOf R mc ms Pc) (PostOf Qc mc ms free) (vx_Post XC mc ms free) := by
  intro m meth c A g ig mk a X hg hsize hdg hW hn hp
  have h1 : (headSpec ws rm).pre.before a A.U = true := atoms_intro fun w hw => hws w hw _ _ X.warmed
  have h2 : (Cond.codeWith y bytes maxL ret hh).before a A.U = true := hws _ hcode _ _ X.warmed
  have h3 : (Cond.initialized y.cls).before a A.U = true := hinit _ _ X.warmed
  have h4 : A.cells + (headSpec ws rm).room.cells ≤ R.cells := by rw [show (headSpec ws rm).room.cells = mc from hrc]; exact hp.1
  have h5 : A.slots + (headSpec ws rm).room.slots ≤ R.slots := by rw [show (headSpec ws rm).room.slots = ms from hrs]; exact hp.2.1
  have hPc : Pc a (A.U.calling g mk a) := hblind _ _ _ _ hp.2.2
  obtain ⟨U, Ls, c0, s0⟩ := A
  dsimp only [Pt.U, Pt.locs, Pt.cells, Pt.slots] at h1 h2 h3 h4 h5 X hn hPc ⊢
  obtain ⟨m9, methY, cY, hn9, hmY, hcY, -, hlY, -⟩ := Cond.codeWith_spec h2
  cases Option.some.inj (hn9.symm.trans hn)
  obtain ⟨kY, hkY, -⟩ := className_of_methodNamed hn
  have hinitY : kY.init = .initialized := Cond.initialized_spec (findClass_of_methodNamed hn) hkY h3
  have h : At U g.method c below := by rw [hg]; exact X.here
  have hlocals9 : W9 + (maxL + 11) + (headSpec ws rm).room.locals ≤ R.locals := hlocals
  have happ : (headSpec ws rm).appliesLoose y e.platform (U.calling g mk a) = true :=
    Spec.appliesLoose_calling (g := g) h hdg hn hkY hinitY
      (X.room_calling (g := g) (R' := (headSpec ws rm).room) hsize hmY hcY hframes (by rw [hlY]; omega) h4 h5) h1
  obtain ⟨mid, hmid⟩ := h.above
  have hfr : (U.setTop g).frames = (.java g :: mid) ++ below := by rw [State.frames_setTop' g h.top, hmid]; rfl
  obtain ⟨o, s₂, hsteps, -, hend, hq⟩ := Steps.callFree hM p X.admits X.cas X.clock (acts := []) hfr happ hPc trivial
  have hq' : vx_Q Qc XC mc ms free a (U.calling g mk a) o s₂ := hq
  rw [State.frames_setTop' g h.top] at hend
  obtain ⟨g₀, hg0⟩ := Option.isSome_iff_exists.mp h.top
  obtain ⟨r, hr⟩ := State.topJava?_eq_some.mp hg0
  have hr' : (({ U with heap := s₂.heap, slotsUsed := s₂.slotsUsed } : State).setVm s₂.vm).frames = .java g₀ :: r := hr
  rcases hq' with ⟨hqc, L, hfe, hL⟩ | ⟨q, rfl, E, ce, L, hx, hce, hcv, hcl, hW₂, hsm, hL⟩
  · obtain ⟨⟨v, rfl⟩, hW₂, e2, q2, q3, q4, q5, q6⟩ := id hfe
    have e3 : s₂ = ({ (U.calling g mk a).setFrames s₂.frames with heap := s₂.heap, slotsUsed := s₂.slotsUsed } : State).setVm s₂.vm := by
      have : s₂ = ({ s₂ with vm := (U.calling g mk a).vm } : State).setVm s₂.vm := rfl
      rw [e2] at this
      exact this
    obtain ⟨c₂, i₂, len₂, hc₂, hd₂, hf₂⟩ := hend
    have hW' : U.WarmedH s₂.vm := hW₂
    have hcc : c₂ = c := by
      have h1 : s₂.code? g.method = U.code? g.method := by
        rw [State.code?_eq, State.code?_eq, hW'.alike.method?]
      exact Option.some.inj (hc₂.symm.trans (h1.trans h.code))
    subst hcc
    have hlen : len₂ = len := by rw [hdg] at hd₂; cases hd₂; rfl
    subst hlen
    have hs₂ : s₂ = (({ U with heap := s₂.heap, slotsUsed := s₂.slotsUsed } : State).setVm s₂.vm).setTop { g with pc := g.pc + len₂, stack := v.toList ++ g.stack } := by
      refine e3.trans ?_
      rw [hf₂, State.calling_eq h.top, State.setFrames_setFrames, State.setTop_of_frames _ hr', hr]
      rfl
    have hsame : U.sameButNew ({ U with heap := s₂.heap, slotsUsed := s₂.slotsUsed } : State) L mc ms := by
      refine ⟨?_, q2, q3, q4, q5, q6⟩
      obtain ⟨t, ht, -⟩ := State.frames_cons hr
      show ({ U with heap := s₂.heap, slotsUsed := s₂.slotsUsed } : State) = { U.setFrames U.frames with heap := s₂.heap, slotsUsed := s₂.slotsUsed }
      rw [State.setFrames_self ht]
    subst hg
    refine Or.inl ⟨v, ⟨(({ U with heap := s₂.heap, slotsUsed := s₂.slotsUsed } : State).setVm s₂.vm), Ls ++ L, c0 + mc, s0 + ms⟩,
      ⟨X.admits, X.cas, X.clock, X.frames, X.room, X.hears, X.method, X.code, (X.here.setHeapUsed s₂.heap s₂.slotsUsed).setVm hW'.alike, X.tail, State.WarmedH.trans X.warmed hW', X.limits, X.bytes, X.same.trans (hsame.setVm s.vm)⟩,
      ⟨g, mk, s₂, L, rfl, rfl, hqc, rfl, hL, rfl, rfl⟩, ?_⟩
    show Steps p.tables e below _ ((({ U with heap := s₂.heap, slotsUsed := s₂.slotsUsed } : State).setVm s₂.vm).setTop { g with pc := g.pc + len₂, stack := v.toList ++ g.stack })
    rw [← hs₂]
    exact hsteps
  · obtain ⟨e2, q2, q3, q4, q5, q6⟩ := id hsm
    have e3 : s₂ = ({ (U.calling g mk a).setFrames s₂.frames with heap := s₂.heap, slotsUsed := s₂.slotsUsed } : State).setVm s₂.vm := by
      have : s₂ = ({ s₂ with vm := (U.calling g mk a).vm } : State).setVm s₂.vm := rfl
      rw [e2] at this
      exact this
    have hf₂ : s₂.frames = .throwing q :: .java g :: U.frames.tail := hend
    have hW' : U.WarmedH s₂.vm := hW₂
    have hs₂ : s₂ = ((({ U with heap := s₂.heap, slotsUsed := s₂.slotsUsed } : State).setVm s₂.vm).setTop g).pushFrame (.throwing q) := by
      refine e3.trans ?_
      rw [hf₂, State.calling_eq h.top, State.setFrames_setFrames, State.pushFrame, State.frames_setTop _ hr', State.setTop_of_frames _ hr', State.setFrames_setFrames, hr]
      rfl
    have hsame : U.sameButNew ({ U with heap := s₂.heap, slotsUsed := s₂.slotsUsed } : State) L mc ms := by
      refine ⟨?_, q2, q3, q4, q5, q6⟩
      obtain ⟨t, ht, -⟩ := State.frames_cons hr
      show ({ U with heap := s₂.heap, slotsUsed := s₂.slotsUsed } : State) = { U.setFrames U.frames with heap := s₂.heap, slotsUsed := s₂.slotsUsed }
      rw [State.setFrames_self ht]
    subst hg
    refine Or.inr ⟨q, ⟨(({ U with heap := s₂.heap, slotsUsed := s₂.slotsUsed } : State).setVm s₂.vm), Ls ++ L, c0 + mc, s0 + ms⟩,
      ⟨X.admits, X.cas, X.clock, X.frames, X.room, X.hears, X.method, X.code, (X.here.setHeapUsed s₂.heap s₂.slotsUsed).setVm hW'.alike, X.tail, State.WarmedH.trans X.warmed hW', X.limits, X.bytes, X.same.trans (hsame.setVm s.vm)⟩,
      ⟨g, mk, s₂, L, E, ce, rfl, rfl, hx, hce, hcv, hcl, rfl, hL, rfl, rfl⟩, ?_⟩
    show Steps p.tables e below _ (((({ U with heap := s₂.heap, slotsUsed := s₂.slotsUsed } : State).setVm s₂.vm).setTop g).pushFrame (.throwing q))
    rw [← hs₂]
    exact hsteps
end
variable {p : Program} {l : Launch} {e : Env} {R : Room} {s : State} {m : MethodId} {args : Array Value} {below : List Frame} {meth : Method} {c : Code} {T : State} {H : Heap} {locs : List Loc} {cells slots : Nat}
theorem vx_callVX (X : Stand p l e R s m args below meth c T locs cells slots) (hexec : p.tables.exec = Jvm.exec) {own C : String} {index : Nat} {y : MethodName} {bytes : ByteArray} {maxL : Nat} {ret : Option FieldType} {hh : List (Nat × Nat × Nat × Nat)}
    (hown : s.vm.findClass own = some m.cls) (hlink : (Cond.methodLink own index y).before args s = true) (hinst : (Cond.instanceMethod y).before args s = true) (hsel : (Cond.selects C y y).before args s = true)
    (hcode : (Cond.codeWith y bytes maxL ret hh).before args s = true) (hy : y.cls ≠ "java/lang/invoke/MethodHandle" ∧ y.cls ≠ "java/lang/invoke/VarHandle")
    {W9 : Nat} {Pre : Pt → Array Value → Prop} {Post : Pt → Array Value → Option Value → Pt → Prop} {PostX : Pt → Array Value → Addr → Pt → Prop} (hK : vx_Back l R p e below s args y 3 W9 Pre Post PostX)
    {b : Addr} {cellB : Cell} (hcell : T.heap[b]? = some cellB) (hobj : cellB.vm.isStatics = false) (hcls : s.vm.findClass C = some cellB.cls)
    {g : JFrame} (hg : g.method = m) (hsize : g.locals.size = c.maxLocals) {argsL rest : List Value} (hlen : ∀ sig, parseMethodDescriptor y.desc = some sig → argsL.length = sig.parameters.length)
    (hstack : g.stack = argsL.reverse ++ .ref b :: rest) (hW : 2 * g.monitorRoom + (rest.map fun v => v.category).sum ≤ W9) (hdg : decode c.code g.pc = .ok (.invokevirtual index, 3))
    (hpre : ∀ vm₁, s.WarmedH vm₁ → Pre ⟨T.setVm vm₁, locs, cells, slots⟩ (Value.ref b :: argsL).toArray) :
    (∃ (v : Option Value) (vm₁ : Vm) (B : Pt), s.WarmedH vm₁ ∧ Stand p l e R s m args below meth c B.U B.locs B.cells B.slots ∧ Post ⟨T.setVm vm₁, locs, cells, slots⟩ (Value.ref b :: argsL).toArray v B ∧
      ∀ target, Steps p.tables e below (B.U.setTop { g with pc := g.pc + 3, stack := v.toList ++ rest }) target → Steps p.tables e below (T.setTop g) target) ∨
    (∃ (q : Addr) (vm₁ : Vm) (B : Pt), s.WarmedH vm₁ ∧ Stand p l e R s m args below meth c B.U B.locs B.cells B.slots ∧ PostX ⟨T.setVm vm₁, locs, cells, slots⟩ (Value.ref b :: argsL).toArray q B ∧
      Steps p.tables e below (T.setTop g) ((B.U.setTop { g with stack := rest }).pushFrame (.throwing q))) := by
  obtain ⟨mk, methM, hnamed, hmethM, hstM, habM⟩ := Cond.instanceMethod_spec hinst
  obtain ⟨m8, methM', cM, hn8, hmethM', -, -, -, -, -, -, hsigM⟩ := Cond.codeWith_spec hcode
  cases Option.some.inj (hn8.symm.trans hnamed)
  cases hmethM.symm.trans hmethM'
  obtain ⟨c2, r2, m2, q1, q2, q3, q4, kP, hkP, hkPi⟩ := Cond.selects_spec hsel
  cases hcls.symm.trans q1
  cases (State.methodFound?_of_named hnamed hy).symm.trans q2
  cases hnamed.symm.trans q3
  have hselP : selectMethod e.platform s.vm cellB.cls mk = .method mk := by rw [Launch.admits_selectMethod X.admits]; exact q4
  obtain ⟨vm₁, X₁, hstep₁⟩ := X.invokevirtual hexec hown hlink hnamed hmethM hstM hkP hkPi hy (a := b) (cell := cellB) hcell
    (fun z h => by rw [h] at hobj; cases hobj) hselP hmethM habM hkP hkPi (g := g) hg (argsL := argsL) (rest := rest) (hlen _ hsigM) hstack hdg
  rcases hK m meth c ⟨T.setVm vm₁, locs, cells, slots⟩ { g with stack := rest } (.invokevirtual index) mk (Value.ref b :: argsL).toArray X₁ hg hsize hdg hW (X₁.named hnamed) (hpre vm₁ X₁.warmed) with ⟨v, B, X', hpost, hsteps⟩ | ⟨q, B, X', hpost, hsteps⟩
  · exact Or.inl ⟨v, vm₁, B, X₁.warmed, X', hpost, fun target h => hstep₁ _ fun acts => by rw [doInvoke_state]; exact hsteps.trans h⟩
  · exact Or.inr ⟨q, vm₁, B, X₁.warmed, X', hpost, hstep₁ _ fun acts => by rw [doInvoke_state]; exact hsteps⟩
theorem vx_callSX (X : Stand p l e R s m args below meth c T locs cells slots) (hexec : p.tables.exec = Jvm.exec) {own : String} {index : Nat} {y : MethodName} {bytes : ByteArray} {maxL : Nat} {ret : Option FieldType} {hh : List (Nat × Nat × Nat × Nat)}
    (hown : s.vm.findClass own = some m.cls) (hlink : (Cond.methodLink own index y).before args s = true) (hstat : (Cond.static y).before args s = true) (hinit : (Cond.initialized y.cls).before args s = true)
    (hcode : (Cond.codeWith y bytes maxL ret hh).before args s = true) (hy : y.cls ≠ "java/lang/invoke/MethodHandle" ∧ y.cls ≠ "java/lang/invoke/VarHandle")
    {W9 : Nat} {Pre : Pt → Array Value → Prop} {Post : Pt → Array Value → Option Value → Pt → Prop} {PostX : Pt → Array Value → Addr → Pt → Prop} (hK : vx_Back l R p e below s args y 3 W9 Pre Post PostX)
    {g : JFrame} (hg : g.method = m) (hsize : g.locals.size = c.maxLocals) {argsL rest : List Value} (hlen : ∀ sig, parseMethodDescriptor y.desc = some sig → argsL.length = sig.parameters.length)
    (hstack : g.stack = argsL.reverse ++ rest) (hW : 2 * g.monitorRoom + (rest.map fun v => v.category).sum ≤ W9) (hdg : decode c.code g.pc = .ok (.invokestatic index, 3))
    (hpre : ∀ vm₁, s.WarmedH vm₁ → Pre ⟨T.setVm vm₁, locs, cells, slots⟩ argsL.toArray) :
    (∃ (v : Option Value) (vm₁ : Vm) (B : Pt), s.WarmedH vm₁ ∧ Stand p l e R s m args below meth c B.U B.locs B.cells B.slots ∧ Post ⟨T.setVm vm₁, locs, cells, slots⟩ argsL.toArray v B ∧
      ∀ target, Steps p.tables e below (B.U.setTop { g with pc := g.pc + 3, stack := v.toList ++ rest }) target → Steps p.tables e below (T.setTop g) target) ∨
    (∃ (q : Addr) (vm₁ : Vm) (B : Pt), s.WarmedH vm₁ ∧ Stand p l e R s m args below meth c B.U B.locs B.cells B.slots ∧ PostX ⟨T.setVm vm₁, locs, cells, slots⟩ argsL.toArray q B ∧
      Steps p.tables e below (T.setTop g) ((B.U.setTop { g with stack := rest }).pushFrame (.throwing q))) := by
  obtain ⟨mk, methM, cM, hnamed, hmethM, -, -, -, -, -, -, hsigM⟩ := Cond.codeWith_spec hcode
  have hstatic : methM.isStatic = true := Cond.static_spec hnamed hmethM hstat
  obtain ⟨kP, hkP, -⟩ := className_of_methodNamed hnamed
  have hinitP : kP.init = .initialized := Cond.initialized_spec (findClass_of_methodNamed hnamed) hkP hinit
  obtain ⟨vm₁, X₁, hstep₁⟩ := X.invokestatic hexec hown hlink hnamed hmethM hstatic hkP hinitP hy (g := g) hg (argsL := argsL) (rest := rest) (hlen _ hsigM) hstack hdg
  rcases hK m meth c ⟨T.setVm vm₁, locs, cells, slots⟩ { g with stack := rest } (.invokestatic index) mk argsL.toArray X₁ hg hsize hdg hW (X₁.named hnamed) (hpre vm₁ X₁.warmed) with ⟨v, B, X', hpost, hsteps⟩ | ⟨q, B, X', hpost, hsteps⟩
  · exact Or.inl ⟨v, vm₁, B, X₁.warmed, X', hpost, fun target h => hstep₁ _ fun acts => by rw [doInvoke_state]; exact hsteps.trans h⟩
  · exact Or.inr ⟨q, vm₁, B, X₁.warmed, X', hpost, hstep₁ _ fun acts => by rw [doInvoke_state]; exact hsteps⟩
theorem vx_callVW (X : Stand p l e R s m args below meth c T locs cells slots) (hexec : p.tables.exec = Jvm.exec) {own C : String} {index : Nat} {y : MethodName} {bytes : ByteArray} {maxL : Nat} {ret : Option FieldType} {hh : List (Nat × Nat × Nat × Nat)}
    (hown : s.vm.findClass own = some m.cls) (hlink : (Cond.methodLink own index y).before args s = true) (hinst : (Cond.instanceMethod y).before args s = true) (hsel : (Cond.selects C y y).before args s = true)
    (hcode : (Cond.codeWith y bytes maxL ret hh).before args s = true) (hy : y.cls ≠ "java/lang/invoke/MethodHandle" ∧ y.cls ≠ "java/lang/invoke/VarHandle")
    {W9 : Nat} {Pre : Pt → Array Value → Prop} {Post : Pt → Array Value → Option Value → Pt → Prop} (hK : Back l R p e below s args y 3 W9 Pre Post)
    {b : Addr} {cellB : Cell} (hcell : T.heap[b]? = some cellB) (hobj : cellB.vm.isStatics = false) (hcls : s.vm.findClass C = some cellB.cls)
    {g : JFrame} (hg : g.method = m) (hsize : g.locals.size = c.maxLocals) {argsL rest : List Value} (hlen : ∀ sig, parseMethodDescriptor y.desc = some sig → argsL.length = sig.parameters.length)
    (hstack : g.stack = argsL.reverse ++ .ref b :: rest) (hW : 2 * g.monitorRoom + (rest.map fun v => v.category).sum ≤ W9) (hdg : decode c.code g.pc = .ok (.invokevirtual index, 3))
    (hpre : ∀ vm₁, s.WarmedH vm₁ → Pre ⟨T.setVm vm₁, locs, cells, slots⟩ (Value.ref b :: argsL).toArray) :
    ∃ (v : Option Value) (vm₁ : Vm) (B : Pt), s.WarmedH vm₁ ∧ Stand p l e R s m args below meth c B.U B.locs B.cells B.slots ∧ Post ⟨T.setVm vm₁, locs, cells, slots⟩ (Value.ref b :: argsL).toArray v B ∧
      ∀ target, Steps p.tables e below (B.U.setTop { g with pc := g.pc + 3, stack := v.toList ++ rest }) target → Steps p.tables e below (T.setTop g) target := by
  obtain ⟨mk, methM, hnamed, hmethM, hstM, habM⟩ := Cond.instanceMethod_spec hinst
  obtain ⟨m8, methM', cM, hn8, hmethM', -, -, -, -, -, -, hsigM⟩ := Cond.codeWith_spec hcode
  cases Option.some.inj (hn8.symm.trans hnamed)
  cases hmethM.symm.trans hmethM'
  obtain ⟨c2, r2, m2, q1, q2, q3, q4, kP, hkP, hkPi⟩ := Cond.selects_spec hsel
  cases hcls.symm.trans q1
  cases (State.methodFound?_of_named hnamed hy).symm.trans q2
  cases hnamed.symm.trans q3
  have hselP : selectMethod e.platform s.vm cellB.cls mk = .method mk := by rw [Launch.admits_selectMethod X.admits]; exact q4
  obtain ⟨vm₁, X₁, hstep₁⟩ := X.invokevirtual hexec hown hlink hnamed hmethM hstM hkP hkPi hy (a := b) (cell := cellB) hcell
    (fun z h => by rw [h] at hobj; cases hobj) hselP hmethM habM hkP hkPi (g := g) hg (argsL := argsL) (rest := rest) (hlen _ hsigM) hstack hdg
  obtain ⟨v, B, X', hpost, hsteps⟩ := hK m meth c ⟨T.setVm vm₁, locs, cells, slots⟩ { g with stack := rest } (.invokevirtual index) mk (Value.ref b :: argsL).toArray X₁ hg hsize hdg hW (X₁.named hnamed) (hpre vm₁ X₁.warmed)
  exact ⟨v, vm₁, B, X₁.warmed, X', hpost, fun target h => hstep₁ _ fun acts => by rw [doInvoke_state]; exact hsteps.trans h⟩
abbrev vx_CVW (R : Room) (s : State) (args : Array Value) (own C : String) (index : Nat) (y : MethodName) (bytes : ByteArray) (maxL : Nat) (ret : Option FieldType) (hh : List (Nat × Nat × Nat × Nat)) (ws : List Cond) (rm : Room) (mc ms n : Nat) : Prop :=
  (rm.cells = mc ∧ rm.slots = ms ∧ rm.frames + 1 ≤ R.frames ∧ 8 + (maxL + 11) + rm.locals ≤ R.locals ∧ (∀ w ∈ ws, ∀ (a' : Array Value) (U : State), s.WarmedH U.vm → w.before a' U = true) ∧ Cond.codeWith y bytes maxL ret hh ∈ ws) ∧
  (Cond.codeWith y bytes maxL ret hh).before args s = true ∧ (Cond.initialized y.cls).before args s = true ∧ (y.cls ≠ "java/lang/invoke/MethodHandle" ∧ y.cls ≠ "java/lang/invoke/VarHandle") ∧
  (∀ sig, parseMethodDescriptor y.desc = some sig → n = sig.parameters.length) ∧ (Cond.methodLink own index y).before args s = true ∧ (Cond.instanceMethod y).before args s = true ∧ (Cond.selects C y y).before args s = true
theorem vx_cwVW {own C : String} {index maxL mc ms : Nat} {y : MethodName} {bytes : ByteArray} {ret : Option FieldType} {hh : List (Nat × Nat × Nat × Nat)} {Ts ws ws' : List Cond} {rm : Room} (n : Nat) (ht : ∀ w ∈ Ts, w.before args s = true) (hT : GoodIn Ts (wsV own index C y ws)) (hw : ws = Cond.codeWith y bytes maxL ret hh :: ws') (hrc : rm.cells = mc) (hrs : rm.slots = ms)
    (hd : y.cls = C ∧ y.cls ≠ "java/lang/invoke/MethodHandle" ∧ y.cls ≠ "java/lang/invoke/VarHandle" ∧ (parseMethodDescriptor y.desc).map (fun d => d.parameters.length) = some n) (hR : rm.frames + 1 ≤ R.frames ∧ 8 + (maxL + 11) + rm.locals ≤ R.locals) :
    vx_CVW R s args own C index y bytes maxL ret hh ws rm mc ms n := by
  obtain ⟨hC, hd⟩ := hd
  subst hC
  have ok : ∀ w ∈ wsV own index y.cls y ws, w.before args s = true := fun w h => ht w (hT w h).1
  have hG : GoodIn Ts ws := fun w h => hT w (by unfold wsV; exact List.mem_append_right _ h)
  have hc : Cond.codeWith y bytes maxL ret hh ∈ ws := by rw [hw]; exact List.mem_cons_self
  refine ⟨⟨hrc, hrs, hR.1, hR.2, pay_in ht hG, hc⟩, ht _ (hG _ hc).1, ok _ (by simp [wsV]), ⟨hd.1, hd.2.1⟩, fun sig h => ?_, ok _ (by simp [wsV]), ok _ (by simp [wsV]), ok _ (by simp [wsV])⟩
  have h2 := hd.2.2
  rw [h] at h2
  exact (Option.some.inj h2).symm
theorem vx_runVW {y : MethodName} {bytes cc : ByteArray} {maxL nL mc ms n index : Nat} {ret : Option FieldType} {hh : List (Nat × Nat × Nat × Nat)} {ws : List Cond} {rm : Room} {Pc : Array Value → State → Prop} {Qc : Array Value → State → Outcome → State → Prop} {free : Addr → Prop} {Ts : List Cond} {own C : String} {b : Addr} {As rest : List Value} {g : JFrame}
    (S : CallFix p m c cc nL s args Ts own) (hM : Met l y ws rm Pc Qc mc ms free) (cw : vx_CVW R s args own C index y bytes maxL ret hh ws rm mc ms n) (hp : PreV s H C b Pc As)
    (hg : g.method = m) (hn : As.length = n) (hsize : g.locals.size = nL) (hstack : g.stack = As.reverse ++ .ref b :: rest) (hW : 2 * g.monitorRoom + (rest.map fun v => v.category).sum ≤ 8) (hdg : decode cc g.pc = .ok (.invokevirtual index, 3)) (hf : cells + mc ≤ R.cells ∧ slots + ms ≤ R.slots) :
    va_Run p l e R s m args below meth c H locs cells slots mc ms g rest (Qc (Value.ref b :: As).toArray) free := by
  obtain ⟨⟨hrc, hrs, hfr, hlo, hws, hcw⟩, hcode, hini, hy, hlen, hl, hin, hse⟩ := cw
  have hK : Back l R p e below s args y 3 8 (PreOf R mc ms Pc) (PostOf Qc mc ms free) := va_backW (hh := hh) (bytes := bytes) (maxL := maxL) (ret := ret) hM hp.1 hrc hrs hfr hlo hws hcw (fun a' U hW => word_at hW (Or.inl (by first | rfl | simp [Cond.onTables, Cond.keeps, Cond.steady])) hini)
  obtain ⟨hx, hb, hml, ho, -⟩ := S
  obtain ⟨-, ⟨cellB, hcB, hoB, hclB⟩, hPc⟩ := hp
  intro T hT X
  obtain ⟨v, vm₁, ⟨U', l2, c2, s2⟩, hW₁, X', ⟨g', mk, t, L, e1, e2, hq, h1, hL, h2, h3⟩, st⟩ := vx_callVW X hx (C := C) (hh := hh) (bytes := bytes) (maxL := maxL) (ret := ret) ho hl hin hse hcode hy hK (by rw [hT]; exact hcB) hoB hclB hg (hsize.trans hml.symm) (argsL := As) (rest := rest) (fun sig h => hn.trans (hlen sig h)) hstack hW (by rw [hb]; exact hdg)
    (fun vm₁ hW₁ => ⟨hf.1, hf.2, hPc (T.setVm vm₁) hT hW₁⟩)
  dsimp only [Pt.U, Pt.locs, Pt.cells, Pt.slots] at X' e1 e2 h1 h2 h3 st
  subst h1; subst h2; subst h3
  exact ⟨v, (T.setVm vm₁).calling g' mk (Value.ref b :: As).toArray, t, U', L, hT, X', hL, e1, e2, hq, st⟩
section
variable {y : MethodName} {bytes cc : ByteArray} {maxL nL mc ms n index : Nat} {ret : Option FieldType} {ws : List Cond} {rm : Room} {Pc : Array Value → State → Prop} {Qc : Array Value → State → Outcome → State → Prop} {XC : String → State → State → Prop} {free : Addr → Prop} {Ts : List Cond} {own C : String} {b : Addr} {As rest : List Value} {g : JFrame}
theorem vx_runVX {hh : List (Nat × Nat × Nat × Nat)} (S : CallFix p m c cc nL s args Ts own) (hM : vx_Met l y ws rm Pc Qc XC mc ms free) (cw : vx_CVW R s args own C index y bytes maxL ret hh ws rm mc ms n) (hp : PreV s H C b Pc As)
    (hg : g.method = m) (hn : As.length = n) (hsize : g.locals.size = nL) (hstack : g.stack = As.reverse ++ .ref b :: rest) (hW : 2 * g.monitorRoom + (rest.map fun v => v.category).sum ≤ 8) (hdg : decode cc g.pc = .ok (.invokevirtual index, 3)) (hf : cells + mc ≤ R.cells ∧ slots + ms ≤ R.slots) :
    vx_Run p l e R s m args below meth c H locs cells slots mc ms g rest (Qc (Value.ref b :: As).toArray) XC free := by
  obtain ⟨⟨hrc, hrs, hfr, hlo, hws, hcw⟩, hcode, hini, hy, hlen, hl, hin, hse⟩ := cw
  have hK : vx_Back l R p e below s args y 3 8 (PreOf R mc ms Pc) (PostOf Qc mc ms free) (vx_Post XC mc ms free) := vx_backW (hh := hh) (bytes := bytes) (maxL := maxL) (ret := ret) hM hp.1 hrc hrs hfr hlo hws hcw (fun a' U hW => word_at hW (Or.inl (by first | rfl | simp [Cond.onTables, Cond.keeps, Cond.steady])) hini)
  obtain ⟨hx, hb, hml, ho, -⟩ := S
  obtain ⟨-, ⟨cellB, hcB, hoB, hclB⟩, hPc⟩ := hp
  intro T hT X
  rcases vx_callVX X hx (C := C) (hh := hh) (bytes := bytes) (maxL := maxL) (ret := ret) ho hl hin hse hcode hy hK (by rw [hT]; exact hcB) hoB hclB hg (hsize.trans hml.symm) (argsL := As) (rest := rest) (fun sig h => hn.trans (hlen sig h)) hstack hW (by rw [hb]; exact hdg)
    (fun vm₁ hW₁ => ⟨hf.1, hf.2, hPc (T.setVm vm₁) hT hW₁⟩) with ⟨v, vm₁, ⟨U', l2, c2, s2⟩, hW₁, X', ⟨g', mk, t, L, e1, e2, hq, h1, hL, h2, h3⟩, st⟩ | ⟨q, vm₁, ⟨U', l2, c2, s2⟩, hW₁, X', ⟨g', mk, t, L, E, ce, e1, e2, hq, hce, hcv, hcl, h1, hL, h2, h3⟩, st⟩
  · dsimp only [Pt.U, Pt.locs, Pt.cells, Pt.slots] at X' e1 e2 h1 h2 h3 st
    subst h1; subst h2; subst h3
    exact Or.inl ⟨v, (T.setVm vm₁).calling g' mk (Value.ref b :: As).toArray, t, U', L, hT, X', hL, e1, e2, hq, st⟩
  · dsimp only [Pt.U, Pt.locs, Pt.cells, Pt.slots] at X' e1 e2 h1 h2 h3 st hcl
    subst h1; subst h2; subst h3
    exact Or.inr ⟨q, (T.setVm vm₁).calling g' mk (Value.ref b :: As).toArray, t, U', L, E, ce, hT, X', hL, e1, e2, hq, hce, hcv, vx_cls hW₁ hcl, st⟩
theorem vx_runSX {hh : List (Nat × Nat × Nat × Nat)} (S : CallFix p m c cc nL s args Ts own) (hM : vx_Met l y ws rm Pc Qc XC mc ms free) (cw : vx_CSW R s args own index y bytes maxL ret hh ws rm mc ms n) (hp : PreS s H Pc As)
    (hg : g.method = m) (hn : As.length = n) (hsize : g.locals.size = nL) (hstack : g.stack = As.reverse ++ rest) (hW : 2 * g.monitorRoom + (rest.map fun v => v.category).sum ≤ 8) (hdg : decode cc g.pc = .ok (.invokestatic index, 3)) (hf : cells + mc ≤ R.cells ∧ slots + ms ≤ R.slots) :
    vx_Run p l e R s m args below meth c H locs cells slots mc ms g rest (Qc As.toArray) XC free := by
  obtain ⟨⟨hrc, hrs, hfr, hlo, hws, hcw⟩, hcode, hini, hy, hlen, hl, hstt⟩ := cw
  have hK : vx_Back l R p e below s args y 3 8 (PreOf R mc ms Pc) (PostOf Qc mc ms free) (vx_Post XC mc ms free) := vx_backW (hh := hh) (bytes := bytes) (maxL := maxL) (ret := ret) hM hp.1 hrc hrs hfr hlo hws hcw (fun a' U hW => word_at hW (Or.inl (by first | rfl | simp [Cond.onTables, Cond.keeps, Cond.steady])) hini)
  obtain ⟨hx, hb, hml, ho, -⟩ := S
  intro T hT X
  rcases vx_callSX X hx (hh := hh) (bytes := bytes) (maxL := maxL) (ret := ret) ho hl hstt hini hcode hy hK hg (hsize.trans hml.symm) (argsL := As) (rest := rest) (fun sig h => hn.trans (hlen sig h)) hstack hW (by rw [hb]; exact hdg)
    (fun vm₁ hW₁ => ⟨hf.1, hf.2, hp.2 (T.setVm vm₁) hT hW₁⟩) with ⟨v, vm₁, ⟨U', l2, c2, s2⟩, hW₁, X', ⟨g', mk, t, L, e1, e2, hq, h1, hL, h2, h3⟩, st⟩ | ⟨q, vm₁, ⟨U', l2, c2, s2⟩, hW₁, X', ⟨g', mk, t, L, E, ce, e1, e2, hq, hce, hcv, hcl, h1, hL, h2, h3⟩, st⟩
  · dsimp only [Pt.U, Pt.locs, Pt.cells, Pt.slots] at X' e1 e2 h1 h2 h3 st
    subst h1; subst h2; subst h3
    exact Or.inl ⟨v, (T.setVm vm₁).calling g' mk As.toArray, t, U', L, hT, X', hL, e1, e2, hq, st⟩
  · dsimp only [Pt.U, Pt.locs, Pt.cells, Pt.slots] at X' e1 e2 h1 h2 h3 st hcl
    subst h1; subst h2; subst h3
    exact Or.inr ⟨q, (T.setVm vm₁).calling g' mk As.toArray, t, U', L, E, ce, hT, X', hL, e1, e2, hq, hce, hcv, vx_cls hW₁ hcl, st⟩
end
end VXH
theorem vx_ofWH {l : Launch} {y : MethodName} {ws ws' : List Cond} {rm : Room} {Pc : Array Value → State → Prop} {Qc : Array Value → State → Outcome → State → Prop} {XC : String → State → State → Prop} {mc ms : Nat} {free : Addr → Prop} {cc : ByteArray} {maxL : Nat} {ret : Option FieldType} {hh : List (Nat × Nat × Nat × Nat)}
    (hy : plainName y.cls = true) (hw : ws = Cond.codeWith y cc maxL ret hh :: ws')
    (body : ∀ p e s m args below meth c s₁, BodyLoose p l y (headSpec ws rm) cc maxL ret e s m args below meth c s₁ → c.maxLocals = maxL → Pc args s →
      W p l e (headSpec ws rm).room s m args below meth c s.heap [] 0 0 (vx_MQ below Qc XC args s mc ms free) (entryFrame m args maxL)) : vx_Met l y ws rm Pc Qc XC mc ms free := by
  refine MetFree.of_bodyS (code := cc) (maxLocals := maxL) (ret := ret) hy ?_ ?_
  · intro args s m h hn
    obtain ⟨m9, meth, c, hn9, h1, h2, h3, h4, -, h5, h6, -⟩ := Cond.codeWith_spec (atoms_spec (ws := ws) h _ (by rw [hw]; exact List.mem_cons_self))
    cases hn.symm.trans hn9
    exact ⟨meth, c, h1, h2, h3, h4, h5, h6⟩
  · intro p e s m args below meth c s₁ B hml hP _
    have hh0 : s₁.heap = s.heap := by rw [B.state]; rfl
    obtain ⟨t, a1, o, b1, b2, b3⟩ := body p e s m args below meth c s₁ B hml hP s₁ hh0 (Stand.of_body B)
    exact ⟨t, o, a1, b1, b2, b3⟩
/-! ===== END ===== -/
end
section
/-! The exception of an unknown person: its constructor hands on by the pool's place 13, so the chain is put together here. -/
abbrev rvXn : String := "java/util/NoSuchElementException"
theorem rvXn_0 : decode prog_30_method_4_code 0 = .ok (.aload_n 0, 1) := by decide +kernel
theorem rvXn_1 : decode prog_30_method_4_code 1 = .ok (.aload_n 1, 1) := by decide +kernel
theorem rvXn_2 : decode prog_30_method_4_code 2 = .ok (.invokespecial 13, 3) := by decide +kernel
theorem rvXn_5 : decode prog_30_method_4_code 5 = .ok (.return_, 1) := by decide +kernel
def rvXm : List Cond := Bundle.passSAtoms rvXn "java/lang/RuntimeException" 13 prog_30_method_4_code ++ Bundle.chainSAtoms "java/lang/RuntimeException" ["java/lang/Exception"]
def rvXo : List Cond := [.methodLink RX11 177 (Bundle.initS rvXn), .instantiable rvXn 6, .castable rvXn rvXn, .selects rvXn Bundle.tFill0 Bundle.tFill0, .selects rvXn Bundle.tFill Bundle.tFill, .lays rvXn Bundle.tN "cause" "Ljava/lang/Throwable;", .lays rvXn Bundle.tN "stackTrace" Bundle.steD, .lays rvXn Bundle.tN "suppressedExceptions" Bundle.listD, .lays rvXn Bundle.tN "detailMessage" "Ljava/lang/String;", .isRef (.static Bundle.tN "UNASSIGNED_STACK" Bundle.steD), .isRef (.static Bundle.tN "SUPPRESSED_SENTINEL" Bundle.listD), .fieldLink Bundle.tN 198 Bundle.tN "backtrace" "Ljava/lang/Object;", .lays Bundle.tN Bundle.tN "backtrace" "Ljava/lang/Object;", .lays rvXn Bundle.tN "backtrace" "Ljava/lang/Object;"]
def rvXa : List Cond := Bundle.throwableAtoms ++ Bundle.throwableSAtoms ++ rvXm ++ rvXo
section RVT
variable {p : Program} {l : Launch} {e : Env} {R : Room} {s : State} {m₀ : MethodId} {args : Array Value} {below : List Frame} {meth : Method} {c : Code} {W0 : State} {locs : List Loc} {cells slots : Nat}
set_option maxHeartbeats 1000000 in
theorem rv_ctor (X : Stand p l e R s m₀ args below meth c W0 locs cells slots) (hexec : p.tables.exec = Jvm.exec) (htr : e.platform.stackTraces = false) (hown : s.vm.findClass RX11 = some m₀.cls) (h : ∀ a ∈ rvXa, a.before args s = true)
    (hlocs : ∀ x ∈ locs, ∀ cell, s.heap[x.base]? = some cell → cell.vm.isStatics = false) {a : Addr} {cX : ClassId} {kX : Class} (hfoundX : s.vm.findClass rvXn = some cX) (hkX : s.vm.classes[cX]? = some kX) (hcell : W0.heap[a]? = some (freshCell cX kX)) (hnew : s.heap.size ≤ a)
    {msg : Value} (hmsg : msg.isRef = true) {g : JFrame} (hg : g.method = m₀) (hsize : g.locals.size = c.maxLocals) (hlocked : g.locked = none) (hentered : g.entered = []) {rest : List Value} (hstack : g.stack = msg :: .ref a :: .ref a :: rest)
    (hd6 : decode c.code g.pc = .ok (.invokespecial 177, 3)) (hd9 : decode c.code (g.pc + 3) = .ok (.athrow, 1)) (hout : ∀ x ∈ c.exceptionTable.toList, covers x (g.pc + 3) = false)
    (hRframes : 5 < R.frames) (hRlocals : 2 * g.monitorRoom + ((Value.ref a :: rest).map fun v => v.category).sum + 81 ≤ R.locals) (hlocks : meth.locks = false) :
    ∃ U : State, Steps p.tables e below (W0.setTop g) U ∧ U.status = .running ∧ Ended U below (.threw a) ∧ s.WarmedH U.vm ∧ s.sameButNew ({ U with vm := s.vm } : State) locs cells slots ∧ ∃ ce : Cell, U.heap[a]? = some ce ∧ s.vm.findClass rvXn = some ce.cls ∧ ce.vm = .none := by
  have howns : e.platform.frameOwnsMonitors = true := by rw [X.admits.platform]
  have hfin : e.platform.finalization = false := by rw [X.admits.platform]
  have hpl : e.platform.magicAccessors = ({} : Platform).magicAccessors := by rw [X.admits.platform]
  have a' : ∀ x, x ∈ rvXo → x.holds args s none s [] = true := fun x hx => h x (by simp [rvXa, hx])
  obtain ⟨T, Z0, L, -, Y⟩ := ThrowableC.of_atoms (args := args) howns hfin hpl (fun x hx => h x (by simp [rvXa, hx]))
  obtain ⟨Z, M, LZ, LM, hnZ⟩ := Init0T.ofS_atoms (args := args) hpl L Y (fun x hx => h x (by simp [rvXa, hx]))
  obtain ⟨P1, Ps, hlen, L1, hL, hP1m, hlink1, hlink⟩ := Bundle.chainS (args := args) hpl hnZ ["java/lang/Exception"] "java/lang/RuntimeException" (by decide +kernel) (by decide +kernel) (fun x hx => h x (by simp [rvXa, rvXm, hx]))
  obtain ⟨P0, L0, hP0m, hP0s⟩ := PassC.ofS_atoms (args := args) (s := s) (pl := e.platform) hpl (X := rvXn) (Y := "java/lang/RuntimeException") (by decide +kernel) (by decide +kernel) rvXn_0 rvXn_1 rvXn_2 rvXn_5 (fun x hx => h x (by simp [rvXa, rvXm, hx]))
  have hlink0 : P0.sup = P1.m := Option.some.inj (hP0s.symm.trans hP1m)
  have hfound : s.vm.findClass rvXn = some P0.m.cls := findClass_of_methodNamed hP0m
  cases Option.some.inj (hfoundX.symm.trans hfound)
  obtain ⟨c1, kX', hc1, hk, hord, -, -, hn6⟩ := Cond.instantiable_spec (a' (.instantiable rvXn 6) (by simp [rvXo]))
  cases Option.some.inj (hc1.symm.trans hfound)
  cases Option.some.inj (hkX.symm.trans hk)
  have hsel0 : selectMethod e.platform s.vm P0.m.cls T.fill0 = .method T.fill0 := by
    obtain ⟨c2, r2, m2, q1, q2, q3, q4, -⟩ := Cond.selects_spec (a' (.selects rvXn Bundle.tFill0 Bundle.tFill0) (by simp [rvXo]))
    cases Option.some.inj (q1.symm.trans hfound)
    cases Option.some.inj (q2.symm.trans (State.methodFound?_of_named Y.fill0 (by decide)))
    cases Option.some.inj (q3.symm.trans Y.fill0)
    rw [Launch.admits_selectMethod X.admits]; exact q4
  have hselF : selectMethod e.platform s.vm P0.m.cls T.fill = .method T.fill := by
    obtain ⟨c2, r2, m2, q1, q2, q3, q4, -⟩ := Cond.selects_spec (a' (.selects rvXn Bundle.tFill Bundle.tFill) (by simp [rvXo]))
    cases Option.some.inj (q1.symm.trans hfound)
    cases Option.some.inj (q2.symm.trans (State.methodFound?_of_named Y.fill (by decide)))
    cases Option.some.inj (q3.symm.trans Y.fill)
    rw [Launch.admits_selectMethod X.admits]; exact q4
  obtain ⟨cellS0, hcS0, hiss⟩ := Y.statics
  obtain ⟨u0, hu0⟩ := Cond.staticRefV Y.unassigned L.unassignedStatic L.statics hcS0 hiss (a' (.isRef (.static Bundle.tN "UNASSIGNED_STACK" Bundle.steD)) (by simp [rvXo]))
  obtain ⟨sen, hsen⟩ := Cond.staticRefV Y.sentinel L.sentinelStatic L.statics hcS0 hiss (a' (.isRef (.static Bundle.tN "SUPPRESSED_SENTINEL" Bundle.listD)) (by simp [rvXo]))
  obtain ⟨ci198, i198, fB, hk198, hg198, ha198, hsB, -, hnB, htB, hffB⟩ := Cond.ownField (t := .object "java/lang/Object") Y.found L.cls (by decide +kernel) (a' (.fieldLink Bundle.tN 198 Bundle.tN "backtrace" "Ljava/lang/Object;") (by simp [rvXo])) (a' (.lays Bundle.tN Bundle.tN "backtrace" "Ljava/lang/Object;") (by simp [rvXo])) e.platform hpl
  obtain ⟨cellS, hcS', heS, -, hkeep⟩ := X.same.2.2.2.2.2 T.aS cellS0 hcS0
  have hcellS : W0.heap[T.aS]? = some cellS := hcS'
  have hout' : ∀ i, (⟨T.aS, i⟩ : Loc) ∉ locs := fun i hmem => by
    have := hlocs _ hmem cellS0 hcS0
    rw [hiss] at this; cases this
  have hknownS : cellS.vm ≠ .unknown := by
    rw [heS]; intro hu
    rw [show cellS0.vm = .unknown from hu] at hiss
    cases hiss
  have hneS : T.aS ≠ a := Nat.ne_of_lt (Nat.lt_of_lt_of_le (Array.getElem?_eq_some_iff.mp hcS0).1 hnew)
  obtain ⟨iM, hffM⟩ := Y.msg
  obtain ⟨tyC, dC, hdC, hdnC⟩ := Cond.laysAt hfound hk Y.cause (a' (.lays rvXn Bundle.tN "cause" "Ljava/lang/Throwable;") (by simp [rvXo]))
  obtain ⟨tyS, dS, hdS, hdnS⟩ := Cond.laysAt hfound hk Y.stack (a' (.lays rvXn Bundle.tN "stackTrace" Bundle.steD) (by simp [rvXo]))
  obtain ⟨tyP, dP, hdP, hdnP⟩ := Cond.laysAt hfound hk Y.supp (a' (.lays rvXn Bundle.tN "suppressedExceptions" Bundle.listD) (by simp [rvXo]))
  obtain ⟨tyM, dM, hdM, hdnM⟩ := Cond.laysAt hfound hk hffM (a' (.lays rvXn Bundle.tN "detailMessage" "Ljava/lang/String;") (by simp [rvXo]))
  obtain ⟨tyB, dB, hdB, hdnB⟩ := Cond.laysAt hfound hk hffB (a' (.lays rvXn Bundle.tN "backtrace" "Ljava/lang/Object;") (by simp [rvXo]))
  have bC := Cond.laysApart hdB hdC hdnB hdnC (by rw [hnB, Y.causeName]; decide)
  have bS := Cond.laysApart hdB hdS hdnB hdnS (by rw [hnB, Y.stackName]; decide)
  have bP := Cond.laysApart hdB hdP hdnB hdnP (by rw [hnB, Y.suppName]; decide)
  have hskip : SkipFacts T e.platform s (fun u => u) u0 ((preparedCellV T.toThrowableT (freshCell P0.m.cls kX) a u0 sen).withEntry W0.cur) :=
    ⟨{ ci198 := ci198, i198 := i198, fBack := fB }, ⟨hk198, hg198, ha198, hsB⟩, by
      have := fresh_default (c := P0.m.cls) tyB
      rw [htB] at this
      simpa [preparedCellV, Cell.setSlot, Cell.withEntry, Array.getElem?_setIfInBounds, bC, bS, bP, bC.symm, bS.symm, bP.symm, defaultValue] using this, fun _ _ => rfl⟩
  obtain ⟨tm, methC, cdC, kC, vm₁, hnC, -, -, -, -, -, -, -, hW₁, st1⟩ := Steps.initColdS (tb := p.tables) (e := e) (below := below) (s := s) (U := W0) X.here hexec X.warmed hpl hown (t := Bundle.initS rvXn) rfl rfl (by decide +kernel)
    (a' (.methodLink RX11 177 (Bundle.initS rvXn)) (by simp [rvXo])) (h (.instanceMethod (Bundle.initS rvXn)) (by simp [rvXa, rvXm, Bundle.passSAtoms])) (bytes := prog_30_method_4_code) (maxL := 2) (h (.code (Bundle.initS rvXn) prog_30_method_4_code 2 none) (by simp [rvXa, rvXm, Bundle.passSAtoms]))
    (f := g) hg (a := a) (msg := msg) (rest := .ref a :: rest) hstack hd6
  cases Option.some.inj (hnC.symm.trans hP0m)
  have X₁ := X.noted hW₁
  obtain ⟨vm₂, X₂, st2⟩ := X₁.ctorMessageOffV hexec (g := { g with stack := .ref a :: rest }) hg hsize T L Z LZ M LM (P0 :: P1 :: Ps)
    (fun P hP => by
      rcases List.mem_cons.mp hP with rfl | hP
      · exact L0
      · rcases List.mem_cons.mp hP with rfl | hP
        · exact L1
        · exact hL P hP) ⟨hlink0, hlink1, hlink⟩ (u0 := u0) (sen := sen) (self := a) hmsg (cell := freshCell P0.m.cls kX) (cellS := cellS)
    hcell (fun _ => by simp) (by simp) rfl rfl hsel0 hselF hcellS hneS hknownS (by rw [hkeep _ (hout' _)]; exact hu0) (by rw [hkeep _ (hout' _)]; exact hsen)
    (Takes.of_laid hk hord tyC (by rw [Y.causeType]; rfl)) (Takes.of_laid hk hord tyS (by rw [Y.stackType]; exact fits_refV_array _ u0)) (Takes.of_laid hk hord tyP (by rw [Y.suppType]; exact fits_refV_object _ sen))
    (Takes.of_laid hk hord tyM (by rw [Y.msgType]; exact fits_refV_object _ ⟨msg, hmsg⟩)) Y.objLocals hskip htr [] hd6
    (by simp only [List.length_cons, hlen, List.length_nil]; omega) (by simp only [List.length_cons, hlen, List.length_nil]; exact hRlocals)
  obtain ⟨hwalk, hrun, hended, hWU, hsame⟩ := X₂.athrowLeaves hexec (g := { g with stack := .ref a :: rest, pc := g.pc + 3 }) hg hlocked hentered hout (a := a) (rest := rest) rfl hd9 hlocks
  have hlt : a < ((W0.setVm vm₁).setVm vm₂).heap.size := (Array.getElem?_eq_some_iff.mp hcell).1
  have hU := heapAt_setCell_self (s := (W0.setVm vm₁).setVm vm₂) (plainBareV T.toThrowableT (freshCell P0.m.cls kX) a u0 sen msg) hlt
  refine ⟨_, st1 _ (fun acts => ?_), hrun, hended, hWU, hsame.weaken (fun y hy hlt' => ?_) (Nat.le_refl _) (Nat.le_refl _), _, hU, hfound, rfl⟩
  · rw [doInvoke_state]
    exact st2 _ hwalk
  · rcases List.mem_append.mp hy with h1 | h1
    · exact h1
    · exfalso
      have hb : y.base = a := by
        simp only [List.mem_cons, List.not_mem_nil, or_false] at h1
        rcases h1 with rfl | rfl | rfl | rfl | rfl <;> rfl
      rw [hb] at hlt'
      exact Nat.not_lt.mpr hnew hlt'
end RVT
end
section
/-! 'throw new NoSuchElementException("no such person")', at 8 of OboeDistrict.person. -/
theorem rvPd_8 : decode cX11_person 8 = .ok (.new 173, 3) := by decide +kernel
theorem rvPd_11 : decode cX11_person 11 = .ok (.dup, 1) := by decide +kernel
theorem rvPd_12 : decode cX11_person 12 = .ok (.ldc 175, 2) := by decide +kernel
theorem rvPd_14 : decode cX11_person 14 = .ok (.invokespecial 177, 3) := by decide +kernel
theorem rvPd_17 : decode cX11_person 17 = .ok (.athrow, 1) := by decide +kernel
section RVT2
variable {p : Program} {l : Launch} {e : Env} {R : Room} {s : State} {m : MethodId} {args : Array Value} {below : List Frame} {meth : Method} {c : Code} {H : Heap} {locs : List Loc} {cells slots mc ms : Nat} {free : Addr → Prop} {ls : Array Slot} {Qc : Array Value → State → Outcome → State → Prop} {XC : String → State → State → Prop}
set_option maxHeartbeats 1000000 in
theorem rv_throw (hexec : p.tables.exec = Jvm.exec) (hb : c.code = cX11_person) (hl : l.stackTraces = false) {sa : Nat} {A : Nat → Prop} (hown : s.vm.findClass RX11 = some m.cls)
    (hk : (Cond.classLink RX11 173 rvXn).before args s = true) (hini : (Cond.initialized rvXn).before args s = true) (hstr : vk_R RX11 175 "no such person" sa s) (hat : ∀ w ∈ rvXa.filter vx_no, w.before args s = true)
    (hgood : ∀ w ∈ Cond.classLink RX11 173 rvXn :: Cond.initialized rvXn :: rvXa.filter vx_no, vx_ot w = true)
    (hU : vx_Zq Bundle.tN "UNASSIGNED_STACK" Bundle.steD A s s.heap) (hN : vx_Zq Bundle.tN "SUPPRESSED_SENTINEL" Bundle.listD A s s.heap) (hS : va_S A s.heap H locs) (hsize : ls.size = c.maxLocals) (hout : ∀ x ∈ c.exceptionTable.toList, False)
    (hRframes : 5 < R.frames) (hRlocals : 82 ≤ R.locals) (hRcells : cells + 1 ≤ R.cells) (hRslots : slots + 6 ≤ R.slots) (hlocks : meth.locks = false)
    (hx : ∀ t : State, s.vm.Alike t.vm → H.size ≤ t.heap.size → (∀ q : Nat, q < H.size → t.heap[q]? = H[q]?) → XC rvXn s t) (hf : ∀ z ∈ locs, free z.base) (hc : cells + 1 ≤ mc) (hs : slots + 6 ≤ ms) :
    W p l e R s m args below meth c H locs cells slots (vx_MQ below Qc XC args s mc ms free) (F0 m 8 ls []) := by
  intro T hT X
  have htr : e.platform.stackTraces = false := (show e.platform.stackTraces = l.stackTraces by rw [X.admits.platform]).trans hl
  have Y := vx_rebase X (R' := { frames := R.frames, locals := R.locals, cells := 1, slots := 6 }) (Nat.le_refl _) (Nat.le_refl _) hRcells hRslots
  obtain ⟨s', hA⟩ : ∃ z, z = (T.setVm s.vm).setFrames (.invoking m args :: below) := ⟨_, rfl⟩
  rw [← hA] at Y
  have hvm : s'.vm = s.vm := by rw [hA]; rfl
  have hhp : s'.heap = H := by rw [hA]; exact hT
  have hW0 : s.WarmedH s'.vm := by rw [hvm]; exact State.WarmedH.refl s
  have hat' : ∀ w ∈ rvXa.filter vx_no, w.before args s' = true := fun w hw => vx_ot_at hW0 hvm.symm (hgood w (List.mem_cons_of_mem _ (List.mem_cons_of_mem _ hw))) (hat w hw)
  have hk' : (Cond.classLink RX11 173 rvXn).before args s' = true := vx_ot_at hW0 hvm.symm (hgood _ List.mem_cons_self) hk
  have hini' : (Cond.initialized rvXn).before args s' = true := vx_ot_at hW0 hvm.symm (hgood _ (List.mem_cons_of_mem _ List.mem_cons_self)) hini
  have hU' : vx_Zq Bundle.tN "UNASSIGNED_STACK" Bundle.steD A s' s'.heap := by rw [hhp]; exact vx_Zq.moved hW0.alike (hU.kept hS.2.1)
  have hN' : vx_Zq Bundle.tN "SUPPRESSED_SENTINEL" Bundle.listD A s' s'.heap := by rw [hhp]; exact vx_Zq.moved hW0.alike (hN.kept hS.2.1)
  have h : ∀ w ∈ rvXa, w.before args s' = true := vx_own hat' (vx_isRefq hU'.1) (vx_isRefq hN'.1) hU'.2.word hN'.2.word
  have hown' : s'.vm.findClass RX11 = some m.cls := by rw [hvm]; exact hown
  have hins : (Cond.instantiable rvXn 6).before args s' = true := h _ (by simp [rvXa, rvXo])
  obtain ⟨vm₁, cX, kX, hfX, hkX, -, -, X₁, st1⟩ := Y.newCold hexec (own := RX11) (C := rvXn) (index := 173) (n := 6) hown' hk' hins hini'
    (g := F0 m 8 ls []) rfl (by rw [hb]; exact rvPd_8) (Nat.le_refl _) (Nat.le_refl _)
  generalize hT1 : (T.setVm vm₁).pushCell { cls := cX, slots := kX.instanceTypes.map defaultValue, vm := .none } = T1 at X₁ st1
  have hcat : (Value.ref T.heap.size).category = 1 := rfl
  have hcellA : T1.heap[T.heap.size]? = some (freshCell cX kX) := by rw [← hT1]; exact State.heap_pushCell_size _ _
  have d3' : decode c.code (8 + 3) = .ok (.dup, 1) := by rw [hb]; exact rvPd_11
  have d4' : decode c.code (8 + 4) = .ok (.ldc 175, 2) := by rw [hb]; exact rvPd_12
  have hstr' : vk_R RX11 175 "no such person" sa s' := vk_R.warm hW0 hstr
  obtain ⟨U, hsteps, hrun, hend, hW, hsame, ce, hce, hcl0, hcv⟩ := rv_ctor X₁ hexec htr hown' h (fun x hx => nomatch hx) hfX hkX hcellA (by rw [hhp, hT]; exact Nat.le_refl _) (msg := .ref sa) rfl
    (g := { method := m, pc := 8 + 6, locals := ls, stack := [.ref sa, .ref T.heap.size, .ref T.heap.size], locked := none }) rfl hsize rfl rfl (rest := []) rfl
    (by rw [hb]; exact rvPd_14) (by rw [hb]; exact rvPd_17) (fun x hx => (hout x hx).elim) hRframes (by show 2 * 0 + (1 + 0) + 81 ≤ R.locals; omega) hlocks
  obtain ⟨f1, f2⟩ := vx_frame hsame
  rw [hhp] at f1 f2
  have hWs : s.WarmedH U.vm := State.WarmedH.trans hW0 hW
  have hcl : s.vm.findClass rvXn = some ce.cls := by rw [hvm] at hcl0; exact hcl0
  have hall : s.sameButNew ({ U with vm := s.vm } : State) locs mc ms := by
    subst hA
    obtain ⟨e1, e2⟩ := hsame
    rw [State.setFrames_setFrames] at e1
    have h2 : (T.setVm s.vm).sameButNew ({ U with vm := s.vm } : State) [] (0 + 1) (0 + 6) := ⟨e1, e2⟩
    have h3 := X.same.trans h2
    rw [List.append_nil] at h3
    exact h3.mono hc hs
  refine ⟨U, ?_, .threw T.heap.size, hrun, hend, Or.inr ⟨T.heap.size, rfl, rvXn, ce, locs, hx U hWs.alike f1 (fun q hq => f2 q hq (fun z hz => nomatch hz)), hce, hcv, hcl, hWs, hall, hf⟩⟩
  refine st1 _ ?_
  show Steps p.tables e below (T1.setTop { method := m, pc := 8 + 3, locals := ls, stack := [.ref T.heap.size], locked := none }) _
  jvm_step X₁.here [X₁.here.top, hexec, d3', Value.category]
  exact X₁.ldcString hexec (own := RX11) (text := "no such person") (index := 175) (a := sa) hown' hstr'.1 hstr'.2
    (g := { method := m, pc := 8 + 4, locals := ls, stack := [.ref T.heap.size, .ref T.heap.size], locked := none }) rfl d4' _ hsteps
end RVT2
end
section
/-! OboeDistrict.person of an unknown person throws; the law's person catches it. -/
def rvXi : List Nat := [140, 1339, 1348, 1350, 1353, 1355, 1340, 1341, 151, 152, 1342, 1347, 1351, 1371, 1329, 1372, 1331, 1373, 1333, 1343, 1345, 1335, 1367, 1368, 1370, 1335, 1358, 1359, 1360, 1361, 1321, 1361, 1362, 1363, 1364, 1323, 1364, 1365, 1366, 1367, 1325, 1357, 1318, 1319, 1326, 1327, 1328, 1330, 1332, 1334, 1338, 1337, 1336]
theorem rvXa_in : rvXa.filter vx_no = rvXi.filterMap (fun i => lw_tbl[i]?) := by decide +kernel
theorem rvXa_tbl : ∀ w ∈ rvXa.filter vx_no, w ∈ lw_tbl := fun w hw => by
  rw [rvXa_in] at hw
  obtain ⟨i, -, hi⟩ := List.mem_filterMap.mp hw
  exact List.mem_of_getElem? hi
def rvXb : List Cond := [.castable rvXn rvXn, .declares (Bundle.initS "java/lang/RuntimeException"), .declares (Bundle.initS "java/lang/Exception"), .declares (Bundle.initS Bundle.tN)]
theorem rvXa_bad : ∀ w ∈ (rvXa.filter vx_no).filter (fun w => !goodWord w), w ∈ rvXb := by decide +kernel
theorem rvXa_ot : ∀ w ∈ Cond.classLink RX11 173 rvXn :: Cond.initialized rvXn :: rvXa.filter vx_no, vx_ot w = true := by decide +kernel
theorem rvXw_k : rvW 1317 (.classLink RX11 173 rvXn) = true := by decide +kernel
theorem rvXw_i : rvW 143 (.initialized rvXn) = true := by decide +kernel
/-- what a throw needs of the outside -/
def rvPx (sa : Nat) (A : Nat → Prop) (U : State) (H : Heap) : Prop := (va_Nw (.castable rvXn rvXn) U ∧ va_Nw (.declares (Bundle.initS "java/lang/RuntimeException")) U ∧ va_Nw (.declares (Bundle.initS "java/lang/Exception")) U ∧ va_Nw (.declares (Bundle.initS Bundle.tN)) U) ∧ vk_R RX11 175 "no such person" sa U ∧ vx_Zq Bundle.tN "UNASSIGNED_STACK" Bundle.steD A U H ∧ vx_Zq Bundle.tN "SUPPRESSED_SENTINEL" Bundle.listD A U H
theorem rvPx_warm {sa : Nat} {A : Nat → Prop} {u U : State} {H : Heap} (hW : u.WarmedH U.vm) (h : rvPx sa A u H) : rvPx sa A U H := by
  obtain ⟨⟨h1, h2, h3, h4⟩, h5, h6, h7⟩ := h
  exact ⟨⟨va_Nw.warmC hW h1, va_Nw.warmD hW h2, va_Nw.warmD hW h3, va_Nw.warmD hW h4⟩, vk_R.warm hW h5, vx_Zq.moved hW.alike h6, vx_Zq.moved hW.alike h7⟩
theorem rvPx_same {sa : Nat} {A : Nat → Prop} {u U : State} {H : Heap} (hv : u.vm = U.vm) (h : rvPx sa A u H) : rvPx sa A U H := by
  obtain ⟨⟨h1, h2, h3, h4⟩, h5, h6, h7⟩ := h
  have hal : u.vm.Alike U.vm := by rw [hv]; exact Vm.Alike.refl _
  exact ⟨⟨va_Nw.same rfl hv h1, va_Nw.same rfl hv h2, va_Nw.same rfl hv h3, va_Nw.same rfl hv h4⟩, vk_R.same hv.symm h5, vx_Zq.moved hal h6, vx_Zq.moved hal h7⟩
theorem rvPx_kept {sa : Nat} {A : Nat → Prop} {U : State} {H H1 : Heap} (h : rvPx sa A U H) (hq : ∀ a : Nat, a < H.size → ¬ A a → H1[a]? = H[a]?) : rvPx sa A U H1 := ⟨h.1, h.2.1, h.2.2.1.kept hq, h.2.2.2.kept hq⟩
theorem rvPx_narrow {sa : Nat} {A B : Nat → Prop} {U : State} {H : Heap} (h : rvPx sa A U H) (hAB : ∀ q, B q → A q) : rvPx sa B U H := ⟨h.1, h.2.1, h.2.2.1.narrow hAB, h.2.2.2.narrow hAB⟩
theorem rvPx_bad {sa : Nat} {A : Nat → Prop} {U : State} {H : Heap} {args : Array Value} (h : rvPx sa A U H) : ∀ w ∈ rvXb, w.before args U = true := by
  obtain ⟨⟨h1, h2, h3, h4⟩, -⟩ := h
  exact vx_c (va_Nw.use rfl h1) (vx_c (va_Nw.use rfl h2) (vx_c (va_Nw.use rfl h3) (vx_c (va_Nw.use rfl h4) vx_n)))
def rvPcx (D : va_G) (cT : Nat → ClassId) (ex : Nat → Nat → Nat) (ws : va_W) (sz : Nat) (xs : List Value) (sa : Nat) : Array Value → State → Prop := fun a U => rvPc D cT ex ws sz xs a U ∧ rvPx sa (va_A ws sz) U U.heap
def rvXC (D : va_G) (cT : Nat → ClassId) (ex : Nat → Nat → Nat) (ws : va_W) (sz : Nat) (aw : rvH) : String → State → State → Prop := fun E st t => E = rvXn ∧ ∃ w1 : va_W, (∃ t1, rvAd w1 = rvAd ws ++ t1) ∧ rvWoo cT (rvAd w1) ex aw w1 ∧ va_P D vwCl w1 t.heap ∧ va_D (va_A ws sz) w1 ∧ va_F (va_A ws sz) st t
theorem rv_blindx {D : va_G} {cT : Nat → ClassId} {ex : Nat → Nat → Nat} {ws : va_W} {sz sa : Nat} {xs : List Value} : FrameBlind (rvPcx D cT ex ws sz xs sa) := fun a U g mk q => ⟨rv_blind a U g mk q.1, rvPx_same (u := U) rfl q.2⟩
theorem rv_prex {D : va_G} {cB : Nat → ClassId} {ex : Nat → Nat → Nat} {A : Nat → Prop} {s : State} {sa : Nat} {ws : va_W} {H : Heap} {locs : List Loc} {xs : List Value} (hK : va_K D vwCl (rvTys cB) s) (hX : rvKx ex A s s.heap) (hPx : rvPx sa A s s.heap) (hA : ∀ q, s.heap.size ≤ q → A q) (hP : va_P D vwCl ws H) (hD : va_D A ws) (hS : va_S A s.heap H locs) : ∀ U : State, U.heap = H → s.WarmedH U.vm → rvPcx D cB ex ws H.size xs sa xs.toArray U := by
  intro U hU hW
  refine ⟨rv_pre hK hX hA hP hD hS U hU hW, ?_⟩
  rw [hU]
  exact rvPx_warm hW (rvPx_narrow (rvPx_kept hPx (fun a h1 h2 => hS.2.1 a h1 h2)) (rv_free hD hS hA))
def tb_P : List (Nat × List (Nat × rvE)) := [(8, [(0, (.aload_n 0, 1, 0, 0, 0, 0)), (1, (.iload_n 1, 1, 0, 0, 0, 0)), (2, (.invokevirtual 169, 3, 47, 1, 0, 986)), (5, (.ifCond .ne 13, 3, 0, 0, 0, 0))])]
theorem rvT_P : rvTk rvYn rvKd 168 RX11 cX11_person false (rvFind2 tb_P) := rvTc_ok (by decide +kernel)
/-- the run of OboeDistrict.person to its throw -/
abbrev rvPr (a1 : Int × Int) : Prop := rvRun rvTy rvNf rvTxt [] (rvX0 6) rvInf (rvFind2 tb_P) 8 10 1 6 200 3 100 0 [.inr (2, 0), .inl a1, rvTop] [] rvAw0 0 0 = some (8, [.inr (2, 0), .inl a1, rvTop], [], rvAw0, 0, 0)
theorem rvPr_0 : rvPr ((-2147483648), (-1)) := rvOk_ok (by decide +kernel)
theorem rvPr_1 : rvPr (0, 2147483647) := rvOk_ok (by decide +kernel)
section RVP
variable {l : Launch} {D : va_G} {cB : Nat → ClassId} {ex : Nat → Nat → Nat} {a1 : Int × Int} {ws : va_W} {xs : List Value} {sz sa : Nat}
set_option maxHeartbeats 1000000 in
theorem rv_personX (hl : l.stackTraces = false) (hrun : rvPr a1) (hw : rvWoo cB (rvAd ws) ex rvAw0 ws) (hxs : rvRs (rvAd ws) ex [.inr (2, 0), .inl a1, rvTop] xs) :
    vx_Met l yX11_person (.code yX11_person cX11_person 3 (some .int) :: rvWl) { frames := 10, cells := 1, slots := 6, locals := 200 } (rvPcx D cB ex ws sz xs sa) (fun _ _ _ _ => False) (rvXC D cB ex ws sz rvAw0) 1 6 (va_A ws sz) := by
  refine vx_ofW (cc := cX11_person) (maxL := 3) (ret := some .int) (by decide +kernel) rfl ?_
  intro p e s m args below meth c s₁ B hml hnt hv
  obtain ⟨⟨rfl, hsz, hP, hK, hD0, hX⟩, hPx⟩ := hv
  subst hsz
  have hx := B.exec
  have hb := B.bytes
  have hlocks := B.notSynchronized
  have hown : s.vm.findClass RX11 = some m.cls := findClass_of_methodNamed B.named
  have hts : ∀ w ∈ rvWl, w.before xs.toArray s = true := fun w hw9 => atoms_spec (ws := Cond.code yX11_person cX11_person 3 (some .int) :: rvWl) B.pre w (List.mem_cons_of_mem _ hw9)
  have hD := hD0.self (sz := s.heap.size)
  have hA : ∀ q : Nat, s.heap.size ≤ q → va_A ws s.heap.size q := fun q h9 => Or.inr h9
  have hcB : ∀ q, q < 6 → cB q = rvCt cB (rvAd ws) q := rvCt_c cB (rvAd ws)
  have C : rvCx p s m xs.toArray meth c cX11_person RX11 3 D (rvCt cB (rvAd ws)) ex (va_A ws s.heap.size) false [] := ⟨hx, hb, hml, hown, hts, by rw [rvTys_c hcB]; exact hK, hA, hX, fun q => (by cases q), Or.inl rfl⟩
  have key : rvG p l e (headSpec (Cond.code yX11_person cX11_person 3 (some .int) :: rvWl) { frames := 10, cells := 1, slots := 6, locals := 200 }).room s m xs.toArray below meth c (vx_MQ below (fun _ _ _ _ => False) (rvXC D cB ex ws s.heap.size rvAw0) xs.toArray s 1 6 (va_A ws s.heap.size)) D (rvCt cB (rvAd ws)) ex (va_A ws s.heap.size) 3 (8, [.inr (2, 0), .inl a1, rvTop], [], rvAw0, 0, 0) := by
    intro ws1 H locs ls stk hw1 hl1 hs1 hP1 hD1 hS1
    dsimp only at hw1 hl1 hs1 ⊢
    have hnil := rvRs_nil hs1
    subst hnil
    obtain ⟨hw2, t1, ht1⟩ := rvWo_out hw1
    have hls : ls.size = 3 := by obtain ⟨-, l9, h9, -⟩ := hl1; exact h9.1
    refine rv_throw (sa := sa) hx hb hl hown (hts _ (rvW_ok rvXw_k)) (hts _ (rvW_ok rvXw_i)) hPx.2.1 (vx_hat (fun w hw9 => hts w (List.mem_filter.mpr ⟨rvXa_tbl w (List.mem_filter.mp hw9).1, (List.mem_filter.mp hw9).2⟩)) rvXa_bad (rvPx_bad hPx)) rvXa_ot hPx.2.2.1 hPx.2.2.2 hS1 (by rw [hml]; exact hls) hnt (by show 5 < 10; decide) (by show 82 ≤ 200; decide) (by show 0 + 1 ≤ 1; decide) (by show 0 + 6 ≤ 6; decide) hlocks ?_ hS1.2.2 (by decide) (by decide)
    intro t ht1' hsz' hsame
    exact ⟨rfl, ws1, ⟨t1, ht1⟩, hw2, hP1.kept (fun k q hk => hsame q.1 (vx_lt hP1 hk)), hD1, ⟨Nat.le_trans hS1.1 hsz', fun q hq hnA => (hsame q (Nat.lt_of_lt_of_le hq hS1.1)).trans (hS1.2.1 q hq hnA)⟩⟩
  have hg := rvRun_ok C rvBase_ok hcB rvM_all (fun j as aw r hj h => rvExec_ok rvBase_ok rvM_all rvT_all (fun _ _ _ _ _ h => by cases h) 100000 6 j as aw r hj h) rvT_P (Nat.le_refl 10) (Nat.le_refl 1) (Nat.le_refl 6) (Nat.le_refl 200) key 100 0 _ [] rvAw0 0 0 hrun
  rw [lg_entry_eq]
  exact hg ws s.heap [] _ [] (rvWo_in hw) (rvLo_entry hxs (by show 3 ≤ 3; decide)) trivial hP hD va_S.rf
end RVP
end
section
/-! The law's person: what OboeDistrict.person throws is caught, the answer is 1. -/
def tb_Q : List (Nat × List (Nat × rvE)) := [(17, [(0, (.aload_n 3, 1, 0, 0, 0, 0)), (1, (.iconst 0, 1, 0, 0, 0, 0)), (2, (.aload_n 0, 1, 0, 0, 0, 0)), (3, (.iload_n 1, 1, 0, 0, 0, 0)), (4, (.iload_n 2, 1, 0, 0, 0, 0)), (13, (.astore 4, 2, 0, 0, 0, 0)), (15, (.iconst 1, 1, 0, 0, 0, 0)), (16, (.ireturn, 1, 0, 0, 0, 0))])]
theorem rvT_Q : rvTk rvYn rvKd 168 RL cL_person false (rvFind2 tb_Q) := rvTc_ok (by decide +kernel)
theorem rvQd_5 : decode cL_person 5 = .ok (.invokevirtual 7, 3) := by decide +kernel
theorem rvQd_16 : decode cL_person 16 = .ok (.ireturn, 1) := by decide +kernel
theorem rvQw_l : rvW 1313 (.methodLink RL 7 yX11_person) = true := by decide +kernel
theorem rvQw_m : rvW 1314 (.instanceMethod yX11_person) = true := by decide +kernel
theorem rvQw_s : rvW 1315 (.selects RX11 yX11_person yX11_person) = true := by decide +kernel
theorem rvQw_i : rvW 120 (.initialized RX11) = true := by decide +kernel
theorem rvQw_c : rvW 1316 (.code yX11_person cX11_person 3 (some .int)) = true := by decide +kernel
theorem rvQw_h : rvW 1312 (.classLink RL 13 rvXn) = true := by decide +kernel
theorem rvQw_n : rvCn 11 = RX11 := by decide +kernel
theorem rvQr_0 (a1 : Int × Int) : rvRun rvTy rvNf rvTxt [] (fun _ _ _ => none) rvInf (rvFind2 tb_Q) 5 0 0 0 0 5 100 0 [.inr (2, 0), .inl a1, rvTop, .inr (2, 131), rvU] [] rvAw0 0 0 = some (5, [.inr (2, 0), .inl a1, rvTop, .inr (2, 131), rvU], [rvTop, .inl a1, .inr (2, 0), rvK 0, .inr (2, 131)], rvAw0, 0, 0) := rfl
theorem rvQr_1 (a1 : Int × Int) : rvRun rvTy rvNf rvTxt [] (fun _ _ _ => none) rvInf (rvFind2 tb_Q) 16 0 0 0 0 5 100 13 [.inr (2, 0), .inl a1, rvTop, .inr (2, 131), rvU] [.inr (6, 0)] rvAw0 1 6 = some (16, [.inr (2, 0), .inl a1, rvTop, .inr (2, 131), .inr (6, 0)], [rvK 1], rvAw0, 1, 6) := rfl
theorem rvAw0_0 : ∃ fs, rvAw0[0]? = some (.inl (11, fs)) := ⟨_, rfl⟩
section RVP2
variable {l : Launch} {D : va_G} {cB : Nat → ClassId} {ex : Nat → Nat → Nat} {a1 : Int × Int} {ws : va_W} {xs : List Value} {sz sa : Nat}
set_option maxHeartbeats 1000000 in
theorem rv_personL (hl : l.stackTraces = false) (hrun : rvPr a1) (hw : rvWoo cB (rvAd ws) ex rvAw0 ws) (hxs : rvRs (rvAd ws) ex [.inr (2, 0), .inl a1, rvTop, .inr (2, 131)] xs) :
    vx_Met l yL_person (.codeWith yL_person cL_person 5 (some .int) [(0, 10, 13, 13)] :: rvWl) { frames := 12, cells := 1, slots := 6, locals := 300 } (rvPcx D cB ex ws sz xs sa) (rvQ D cB ex ws sz (some (rvK 1), rvAw0)) (fun _ _ _ => False) 1 6 (va_A ws sz) := by
  refine vx_ofWH (cc := cL_person) (maxL := 5) (ret := some .int) (hh := [(0, 10, 13, 13)]) (by decide +kernel) rfl ?_
  intro p e s m args below meth c s₁ B hml hv
  have htab := vx_table (x := yL_person) B (atoms_spec (ws := Cond.codeWith yL_person cL_person 5 (some .int) [(0, 10, 13, 13)] :: rvWl) B.pre _ List.mem_cons_self)
  obtain ⟨⟨rfl, hsz, hP, hK, hD0, hX⟩, hPx⟩ := hv
  subst hsz
  have hx := B.exec
  have hb := B.bytes
  have hr := B.returns
  have hlocks := B.notSynchronized
  have hown : s.vm.findClass RL = some m.cls := findClass_of_methodNamed B.named
  have hts : ∀ w ∈ rvWl, w.before xs.toArray s = true := fun w hw9 => atoms_spec (ws := Cond.codeWith yL_person cL_person 5 (some .int) [(0, 10, 13, 13)] :: rvWl) B.pre w (List.mem_cons_of_mem _ hw9)
  have hD := hD0.self (sz := s.heap.size)
  have hA : ∀ q : Nat, s.heap.size ≤ q → va_A ws s.heap.size q := fun q h9 => Or.inr h9
  have hcB : ∀ q, q < 6 → cB q = rvCt cB (rvAd ws) q := rvCt_c cB (rvAd ws)
  have hK2 : va_K D vwCl (rvTys (rvCt cB (rvAd ws))) s := by rw [rvTys_c hcB]; exact hK
  have C : rvCx p s m xs.toArray meth c cL_person RL 5 D (rvCt cB (rvAd ws)) ex (va_A ws s.heap.size) false [] := ⟨hx, hb, hml, hown, hts, hK2, hA, hX, fun q => (by cases q), Or.inl rfl⟩
  have key16 : rvG p l e (headSpec (Cond.codeWith yL_person cL_person 5 (some .int) [(0, 10, 13, 13)] :: rvWl) { frames := 12, cells := 1, slots := 6, locals := 300 }).room s m xs.toArray below meth c (vx_MQ below (rvQ D cB ex ws s.heap.size (some (rvK 1), rvAw0)) (fun _ _ _ => False) xs.toArray s 1 6 (va_A ws s.heap.size)) D (rvCt cB (rvAd ws)) ex (va_A ws s.heap.size) 5 (16, [.inr (2, 0), .inl a1, rvTop, .inr (2, 131), .inr (6, 0)], [rvK 1], rvAw0, 1, 6) := by
    intro ws1 H locs ls stk hw1 hl1 hs1 hP1 hD1 hS1
    dsimp only at hw1 hl1 hs1 ⊢
    obtain ⟨hw2, t1, ht1⟩ := rvWo_out hw1
    obtain ⟨x, stk1, rfl, ⟨n1, rfl, p1, q1⟩, hs2⟩ := rvRs_cons hs1
    have hnil := rvRs_nil hs2
    subst hnil
    obtain ⟨g1, -⟩ := rvFit_ok (ad := rvAd ws1) (ex := ex) (ty := .int) (v := rvK 1) (x := .int n1) rfl ⟨n1, rfl, p1, q1⟩
    exact vx_ret (W.zret hx hb hr g1 (fun t ht hW => ⟨_, ws1, rfl, ⟨t1, ht1⟩, hw2, ⟨n1, rfl, p1, q1⟩, by rw [ht]; exact hP1, hD1, hS1.F ht⟩) hS1.2.2 rvQd_16)
  have key13 := rvRun_ok C rvBase_ok hcB rvM_all (fun _ _ _ _ _ h => by cases h) rvT_Q (Nat.zero_le _) (Nat.zero_le _) (Nat.zero_le _) (Nat.zero_le _) key16 100 13 _ _ rvAw0 1 6 (rvQr_1 a1)
  have key5 : rvG p l e (headSpec (Cond.codeWith yL_person cL_person 5 (some .int) [(0, 10, 13, 13)] :: rvWl) { frames := 12, cells := 1, slots := 6, locals := 300 }).room s m xs.toArray below meth c (vx_MQ below (rvQ D cB ex ws s.heap.size (some (rvK 1), rvAw0)) (fun _ _ _ => False) xs.toArray s 1 6 (va_A ws s.heap.size)) D (rvCt cB (rvAd ws)) ex (va_A ws s.heap.size) 5 (5, [.inr (2, 0), .inl a1, rvTop, .inr (2, 131), rvU], [rvTop, .inl a1, .inr (2, 0), rvK 0, .inr (2, 131)], rvAw0, 0, 0) := by
    intro ws1 H locs ls stk hw1 hl1 hs1 hP1 hD1 hS1
    dsimp only at hw1 hl1 hs1 ⊢
    have hls : ls.size = 5 := by obtain ⟨-, l9, h9, -⟩ := hl1; exact h9.1
    obtain ⟨x2, stk2, rfl, ⟨n2, rfl, -, -⟩, hs2⟩ := rvRs_cons hs1
    obtain ⟨x1, stk1, rfl, ⟨n1, rfl, p1, q1⟩, hs3⟩ := rvRs_cons hs2
    obtain ⟨x0, rest, rfl, ⟨q, hq, rfl⟩, hs4⟩ := rvRs_cons hs3
    obtain ⟨fs, hc0⟩ := rvAw0_0
    obtain ⟨⟨a, e0⟩, hq1, fvs, he, hfvs⟩ := rvWo_get hw1 hc0
    have he : e0 = .inr (11, fvs) := he
    subst he
    have hqa := rvAd_ref hq1 hq
    subst hqa
    have hwB : rvWoo cB (rvAd ws1) ex rvAw0 ws1 := rvWoo_c (fun q hq => (hcB q hq).symm) hw1.1
    have hM9 := rv_personX (l := l) (D := D) (sz := H.size) (sa := sa) (xs := [.ref q, .int n1, .int n2]) hl hrun hwB ⟨⟨q, hq, rfl⟩, ⟨n1, rfl, p1, q1⟩, rvR_top n2, trivial⟩
    have cw : ∀ C9, yX11_person.cls = C9 → CallW (headSpec (Cond.codeWith yL_person cL_person 5 (some .int) [(0, 10, 13, 13)] :: rvWl) { frames := 12, cells := 1, slots := 6, locals := 300 }).room s xs.toArray RL C9 7 yX11_person cX11_person 3 (some .int) (.code yX11_person cX11_person 3 (some .int) :: rvWl) { frames := 10, cells := 1, slots := 6, locals := 200 } 1 6 2 := by
      intro C9 hC9
      subst hC9
      exact cwV 2 hts (rvGood_cons (rvW_ok rvQw_l) (rvGood_cons (rvW_ok rvQw_m) (rvGood_cons (rvW_ok rvQw_s) (rvGood_cons (rvW_ok rvQw_i) (rvGood_cons (rvW_ok rvQw_c) rvGood_self))))) rfl rfl rfl ⟨rfl, by decide +kernel, by decide +kernel, by decide +kernel⟩ ⟨by show 10 + 1 ≤ 12; decide, by show 8 + (3 + 11) + 200 ≤ 300; decide⟩
    have hcl := (rvCl 11 (by decide)).2.1
    have hrn := vx_runV (g := F0 m 5 ls (.int n2 :: .int n1 :: .ref q :: rest)) (locs := locs) (cells := 0) (slots := 0) (As := [.int n1, .int n2]) (rest := rest) (nL := 5) (e := e) (below := below) (meth := meth) ⟨hx, hb, hml, hown, hts⟩ hM9 (cw (rvCn 11) rvQw_n.symm) ⟨rv_blindx, va_recv hK2 hP1 hcl hq1, rv_prex hK hX hPx hA hP1 hD1 hS1⟩ rfl rfl hls rfl (lv_room (by rw [rvRs_wd hs4]; decide)) rvQd_5 ⟨by show 0 + 1 ≤ 1; decide, by show 0 + 6 ≤ 6; decide⟩
    intro T hT X
    rcases hrn T hT X with ⟨v, st₀, t, T', L, h0, X', hL, e1, e2, hF, st⟩ | ⟨q9, st₀, t, T', L, E, ce, h0, X', hL, e1, e2, ⟨hE, w1, ⟨t1, ht1⟩, hw9, hP9, hD9, hz, hk⟩, hce, hcv, hcl9, st⟩
    · exact absurd hF id
    · subst hE
      rw [h0] at hz hk
      have hF := rv_free hD1 hS1 hA
      have hS2 : va_S (va_A ws s.heap.size) s.heap T'.heap (locs ++ L) := ⟨Nat.le_trans hS1.1 (by rw [e1]; exact hz), fun q h1 h2 => by rw [e1, hk q (Nat.lt_of_lt_of_le h1 hS1.1) (fun z => h2 (hF q z))]; exact hS1.2.1 q h1 h2, fun q hq => by
          rcases List.mem_append.mp hq with h | h
          · exact hS1.2.2 q h
          · exact hF _ (hL q h)⟩
      rw [← e1] at hP9 hce
      have hw2 : rvWo (rvCt cB (rvAd ws)) (rvAd w1) ex rvAw0 w1 := ⟨rvWoo_c hcB hw9, fun k9 hk9 => by
        have h9 := hw1.2 k9 hk9
        rw [ht1, List.getElem?_append_left (List.getElem?_eq_some_iff.mp h9).1]
        exact h9⟩
      have kk := key13 w1 T'.heap (locs ++ L) ls [.ref q9] hw2 (by rw [ht1]; exact rvLo_mono _ hl1) ⟨Or.inr ⟨q9, rfl⟩, trivial⟩ hP9 (hD9.weaken (fun _ q _ h => hF q.1 h)) hS2
      obtain ⟨t2, a9, b9⟩ := (vx_catch (own := RL) (name := rvXn) (E := rvXn) (pc := 5) (rest := rest) (ls := ls) hown [] ⟨0, 10, 13, 13⟩ [] htab (fun z hz => nomatch hz) (by decide +kernel) (by decide) (hts _ (rvW_ok rvQw_h)) (va_Nw.use rfl hPx.1.1) hce hcv hcl9 kk) T' rfl X'
      exact ⟨t2, st.trans a9, b9⟩
  have hg := rvRun_ok C rvBase_ok hcB rvM_all (fun _ _ _ _ _ h => by cases h) rvT_Q (Nat.zero_le _) (Nat.zero_le _) (Nat.zero_le _) (Nat.zero_le _) key5 100 0 _ [] rvAw0 0 0 (rvQr_0 a1)
  rw [lg_entry_eq]
  exact hg ws s.heap [] _ [] (rvWo_in hw) (rvLo_entry hxs (by show 4 ≤ 5; decide)) trivial hP hD va_S.rf
end RVP2
end
section
/-! The call person of the law. The model's person and what it needs, in tables of their own; its isPerson out of the tables ahead. -/
def yQ_0 : MethodName := ⟨RX12, "person", "(II)I"⟩
def yQ_1 : MethodName := ⟨RX12, "throwsIf", "(Z)Z"⟩
def yQ_2 : MethodName := ⟨RX12, "thrown", "()I"⟩
def yQ : Nat → MethodName := fun n => match n with
  | 0 => yQ_0
  | 1 => yQ_1
  | 2 => yQ_2
  | _ => rvYn 49
theorem yQ_e3 : yQ 3 = rvYn 49 := rfl
def cQ : Nat → ByteArray := fun n => match n with
  | 0 => prog_14_method_50_code
  | 1 => prog_14_method_2_code
  | 2 => prog_14_method_1_code
  | _ => rvCd 49
theorem cQ_e3 : cQ 3 = rvCd 49 := rfl
def iQ : Nat → rvM := fun n => match n with
  | 0 => (3, 10, 0, 0, 300, 12)
  | 1 => (2, 2, 0, 0, 50, 12)
  | 2 => (1, 2, 0, 0, 50, 12)
  | _ => rvInf 49
theorem iQ_e3 : iQ 3 = rvInf 49 := rfl
def rQ : Nat → Option FieldType := fun n => match n with
  | 0 => (some .int)
  | 1 => (some .boolean)
  | 2 => (some .int)
  | _ => rvRet 49
theorem rQ_e3 : rQ 3 = rvRet 49 := rfl
def kQ : Nat → Nat × Nat := fun n => match n with
  | 0 => (0, 2)
  | 1 => (0, 1)
  | 2 => (0, 0)
  | _ => rvKd 49
theorem kQ_e3 : kQ 3 = rvKd 49 := rfl
def tbQ_0 : List (Nat × List (Nat × rvE)) := [(99999, [(0, (.aload_n 0, 1, 0, 0, 0, 0)), (1, (.aload_n 0, 1, 0, 0, 0, 0)), (2, (.iload_n 1, 1, 0, 0, 0, 0)), (3, (.invokevirtual 272, 3, 3, 1, 0, 1704)), (6, (.ifCond .eq 13, 3, 0, 0, 0, 0)), (19, (.iconst 1, 1, 0, 0, 0, 0)), (20, (.goto 4, 3, 0, 0, 0, 0)), (24, (.invokevirtual 275, 3, 1, 1, 0, 1708)), (27, (.ifCond .eq 5, 3, 0, 0, 0, 0)), (30, (.iconst 0, 1, 0, 0, 0, 0)), (31, (.ireturn, 1, 0, 0, 0, 0))])]
def tbQ_1 : List (Nat × List (Nat × rvE)) := [(99999, [(0, (.aload_n 0, 1, 0, 0, 0, 0)), (1, (.iload_n 1, 1, 0, 0, 0, 0)), (2, (.ifCond .eq 7, 3, 0, 0, 0, 0)), (5, (.iconst 1, 1, 0, 0, 0, 0)), (6, (.goto 4, 3, 0, 0, 0, 0)), (10, (.putfield 1, 3, 12, 0, 0, 1435)), (13, (.iload_n 1, 1, 0, 0, 0, 0)), (14, (.ireturn, 1, 0, 0, 0, 0))])]
def tbQ_2 : List (Nat × List (Nat × rvE)) := [(99999, [(0, (.aload_n 0, 1, 0, 0, 0, 0)), (1, (.getfield 1, 3, 12, 0, 0, 1435)), (4, (.ireturn, 1, 0, 0, 0, 0))])]
def tQ : Nat → Nat → Option rvE := fun n => match n with
  | 0 => rvFind2 tbQ_0
  | 1 => rvFind2 tbQ_1
  | 2 => rvFind2 tbQ_2
  | _ => fun _ => none
def tb_p4 : List (Nat × List (Nat × rvE)) := [(99999, [(360, (.aload_n 1, 1, 0, 0, 0, 0)), (361, (.aload_n 0, 1, 0, 0, 0, 0)), (362, (.iload 4, 2, 0, 0, 0, 0)), (364, (.iconst 1, 1, 0, 0, 0, 0)), (365, (.iadd, 1, 0, 0, 0, 0)), (366, (.iaload, 1, 0, 0, 0, 0)), (367, (.aload_n 0, 1, 0, 0, 0, 0)), (368, (.iload 4, 2, 0, 0, 0, 0)), (370, (.iconst 2, 1, 0, 0, 0, 0)), (371, (.iadd, 1, 0, 0, 0, 0)), (372, (.iaload, 1, 0, 0, 0, 0)), (373, (.aload_n 3, 1, 0, 0, 0, 0)), (377, (.istore 5, 2, 0, 0, 0, 0)), (379, (.aload_n 2, 1, 0, 0, 0, 0)), (380, (.aload_n 0, 1, 0, 0, 0, 0)), (381, (.iload 4, 2, 0, 0, 0, 0)), (383, (.iconst 1, 1, 0, 0, 0, 0)), (384, (.iadd, 1, 0, 0, 0, 0)), (385, (.iaload, 1, 0, 0, 0, 0)), (386, (.aload_n 0, 1, 0, 0, 0, 0)), (387, (.iload 4, 2, 0, 0, 0, 0)), (389, (.iconst 2, 1, 0, 0, 0, 0)), (390, (.iadd, 1, 0, 0, 0, 0)), (391, (.iaload, 1, 0, 0, 0, 0)), (392, (.invokevirtual 43, 3, 0, 2, 0, 1700)), (395, (.istore 6, 2, 0, 0, 0, 0)), (397, (.aload_n 2, 1, 0, 0, 0, 0)), (398, (.invokevirtual 44, 3, 2, 0, 0, 1390)), (401, (.iload 5, 2, 0, 0, 0, 0)), (403, (.if_icmp .eq 5, 3, 0, 0, 0, 0)), (408, (.iload 5, 2, 0, 0, 0, 0)), (410, (.ifCond .ne 15, 3, 0, 0, 0, 0)), (425, (.goto 1051, 3, 0, 0, 0, 0))])]
def rvEg (yn : Nat → MethodName) (kd : Nat → Nat × Nat) (NM : Nat) (own : String) (cc : ByteArray) (ini : Bool) (q : Nat × rvE) : Bool := match q with
  | (pc, i, len, a1, a2, a3, wi) => decide (decode cc pc = .ok (i, rvSz i len)) && (rvAux own ini i a1 a2 wi && rvCk yn kd NM own i a1 a2 a3 wi)
theorem rvTg_ok {yn : Nat → MethodName} {kd : Nat → Nat × Nat} {NM : Nat} {own : String} {cc : ByteArray} {ini : Bool} {l : List (Nat × List (Nat × rvE))} (h : l.all (fun ch => ch.2.all (rvEg yn kd NM own cc ini)) = true) : rvTk yn kd NM own cc ini (rvFind2 l) := by
  intro pc i len a1 a2 a3 wi hf
  obtain ⟨ch, h1, h2⟩ := rvFind2_mem hf
  have h3 := List.all_eq_true.mp (List.all_eq_true.mp h ch h1) _ h2
  obtain ⟨g1, g2⟩ := rv_and (show (decide (decode cc pc = .ok (i, rvSz i len)) && (rvAux own ini i a1 a2 wi && rvCk yn kd NM own i a1 a2 a3 wi)) = true from h3)
  obtain ⟨g2, g3⟩ := rv_and g2
  exact ⟨of_decide_eq_true g1, g2, g3⟩
theorem tQ_4 : rvTk yQ kQ 4 RL cL_law false (rvFind2 tb_p4) := rvTg_ok (by decide +kernel)
theorem tQ_0 : rvTk yQ kQ 4 RX12 prog_14_method_50_code false (rvFind2 tbQ_0) := rvTg_ok (by decide +kernel)
theorem mQ_0 : rvMp yQ cQ iQ rQ kQ 0 := ⟨by decide +kernel, ⟨by decide +kernel, by decide +kernel, by decide +kernel⟩, rvW_ok (i := 1703) (w := .code yQ_0 prog_14_method_50_code 3 (some .int)) (by decide +kernel), rvW_ok (i := 135) (w := .initialized RX12) (by decide +kernel), fun _ => ⟨rvW_ok (i := 1701) (w := .instanceMethod yQ_0) (by decide +kernel), rvW_ok (i := 1702) (w := .selects RX12 yQ_0 yQ_0) (by decide +kernel), Or.inl ⟨by decide +kernel, by decide +kernel⟩⟩, fun h => absurd h (by decide +kernel), fun h => absurd h (by decide +kernel)⟩
theorem tQ_1 : rvTk yQ kQ 4 RX12 prog_14_method_2_code false (rvFind2 tbQ_1) := rvTg_ok (by decide +kernel)
theorem mQ_1 : rvMp yQ cQ iQ rQ kQ 1 := ⟨by decide +kernel, ⟨by decide +kernel, by decide +kernel, by decide +kernel⟩, rvW_ok (i := 1711) (w := .code yQ_1 prog_14_method_2_code 2 (some .boolean)) (by decide +kernel), rvW_ok (i := 135) (w := .initialized RX12) (by decide +kernel), fun _ => ⟨rvW_ok (i := 1710) (w := .instanceMethod yQ_1) (by decide +kernel), rvW_ok (i := 69) (w := .selects RX12 yQ_1 yQ_1) (by decide +kernel), Or.inl ⟨by decide +kernel, by decide +kernel⟩⟩, fun h => absurd h (by decide +kernel), fun h => absurd h (by decide +kernel)⟩
theorem tQ_2 : rvTk yQ kQ 4 RX12 prog_14_method_1_code false (rvFind2 tbQ_2) := rvTg_ok (by decide +kernel)
theorem mQ_2 : rvMp yQ cQ iQ rQ kQ 2 := ⟨by decide +kernel, ⟨by decide +kernel, by decide +kernel, by decide +kernel⟩, rvW_ok (i := 1393) (w := .code yQ_2 prog_14_method_1_code 1 (some .int)) (by decide +kernel), rvW_ok (i := 135) (w := .initialized RX12) (by decide +kernel), fun _ => ⟨rvW_ok (i := 1391) (w := .instanceMethod yQ_2) (by decide +kernel), rvW_ok (i := 1392) (w := .selects RX12 yQ_2 yQ_2) (by decide +kernel), Or.inl ⟨by decide +kernel, by decide +kernel⟩⟩, fun h => absurd h (by decide +kernel), fun h => absurd h (by decide +kernel)⟩
theorem mQ_all : ∀ j, j < 4 → rvMp yQ cQ iQ rQ kQ j := fun j h => by
  match j, h with
  | 0, _ => exact mQ_0
  | 1, _ => exact mQ_1
  | 2, _ => exact mQ_2
  | 3, _ =>
    have h9 := rvM_all 49 (by decide)
    unfold rvMp at h9 ⊢
    rw [yQ_e3, cQ_e3, iQ_e3, rQ_e3, kQ_e3]
    exact h9
  | n + 4, h => exact absurd h (by omega)
theorem tQ_all : ∀ j, j < 4 → rvTk yQ kQ 4 (yQ j).cls (cQ j) (decide ((yQ j).name = "<init>")) (tQ j) := fun j h => by
  match j, h with
  | 0, _ =>
    have e : decide ((yQ 0).name = "<init>") = false := by decide +kernel
    rw [e]
    exact tQ_0
  | 1, _ =>
    have e : decide ((yQ 1).name = "<init>") = false := by decide +kernel
    rw [e]
    exact tQ_1
  | 2, _ =>
    have e : decide ((yQ 2).name = "<init>") = false := by decide +kernel
    rw [e]
    exact tQ_2
  | 3, _ => exact fun _ _ _ _ _ _ _ h => by cases h
  | n + 4, h => exact absurd h (by omega)
noncomputable def oQ : Nat → List rvV → rvH → rvO := fun j as aw => match j with
  | 3 => rvX0 6 49 as aw
  | _ => none
theorem oQ_ok {l : Launch} {D : va_G} {cB : Nat → ClassId} {ex : Nat → Nat → Nat} : ∀ j as aw r, j < 4 → oQ j as aw = some r → rvMet l D cB ex yQ cQ iQ rQ j as aw r := by
  intro j as aw r hj h
  match j, hj, h with
  | 0, _, h => cases h
  | 1, _, h => cases h
  | 2, _, h => cases h
  | 3, _, h =>
    have h : rvX0 6 49 as aw = some r := h
    have h9 : rvMet l D cB ex rvYn rvCd rvInf rvRet 49 as aw r := rvExec_ok rvBase_ok rvM_all rvT_all (fun _ _ _ _ _ h => by cases h) 100000 6 49 as aw r (by decide) h
    unfold rvMet at h9 ⊢
    rw [yQ_e3, cQ_e3, iQ_e3, rQ_e3]
    exact h9
  | n + 4, hj, _ => exact absurd hj (by omega)
noncomputable def xQ : Nat → List rvV → rvH → rvO := rvExec rvTy rvNf rvTxt oQ iQ rQ tQ 100000 3
theorem xQ_ok {l : Launch} {D : va_G} {cB : Nat → ClassId} {ex : Nat → Nat → Nat} : ∀ j as aw r, j < 4 → xQ j as aw = some r → rvMet l D cB ex yQ cQ iQ rQ j as aw r := fun j as aw r hj h => rvExec_ok rvBase_ok mQ_all tQ_all oQ_ok 100000 3 j as aw r hj h
theorem q4_0 : rvRun rvTy rvNf rvTxt [(-2147483648, 2147483647), (-2147483648, -1), (-2147483648, 2147483647), (-2147483648, 2147483647), (-2147483648, 2147483647), (-2147483648, 2147483647)] xQ iQ (rvFind2 tb_p4) 374 2048 600002 7302232 84000 7 100 360 rvAl0 [] rvAw0 132 19068 = some (374, rvAl0, [.inr (2, 131), rvTop, .inl (-2147483648, -1), .inr (2, 0)], rvAw0, 132, 19068) := rvOk_ok (by decide +kernel)
theorem r4_0 : rvGd (rvRun rvTy rvNf rvTxt [(-2147483648, 2147483647), (-2147483648, -1), (-2147483648, 2147483647), (-2147483648, 2147483647), (-2147483648, 2147483647), (-2147483648, 2147483647)] xQ iQ (rvFind2 tb_p4) 1476 2048 600002 7302232 84000 7 100 377 rvAl0 [rvK 1] rvAw0 133 19074) = true := by decide +kernel
theorem q4_1 : rvRun rvTy rvNf rvTxt [(-2147483648, 2147483647), (0, 2147483647), (-2147483648, 2147483647), (-2147483648, 2147483647), (-2147483648, 2147483647), (-2147483648, 2147483647)] xQ iQ (rvFind2 tb_p4) 374 2048 600002 7302232 84000 7 100 360 rvAl0 [] rvAw0 132 19068 = some (374, rvAl0, [.inr (2, 131), rvTop, .inl (0, 2147483647), .inr (2, 0)], rvAw0, 132, 19068) := rvOk_ok (by decide +kernel)
theorem r4_1 : rvGd (rvRun rvTy rvNf rvTxt [(-2147483648, 2147483647), (0, 2147483647), (-2147483648, 2147483647), (-2147483648, 2147483647), (-2147483648, 2147483647), (-2147483648, 2147483647)] xQ iQ (rvFind2 tb_p4) 1476 2048 600002 7302232 84000 7 100 377 rvAl0 [rvK 1] rvAw0 133 19074) = true := by decide +kernel
theorem rvLd_374 : decode cL_law 374 = .ok (.invokestatic 38, 3) := by decide +kernel
theorem rvLw_l : rvW 1309 (.methodLink RL 38 yL_person) = true := by decide +kernel
theorem rvLw_s : rvW 1310 (.static yL_person) = true := by decide +kernel
theorem rvLw_i : rvW 119 (.initialized RL) = true := by decide +kernel
theorem rvLw_c : rvW 1311 (.codeWith yL_person cL_person 5 (some .int) [(0, 10, 13, 13)]) = true := by decide +kernel
section RVP4
variable {p : Program} {l : Launch} {e : Env} {s : State} {m : MethodId} {args : Array Value} {below : List Frame} {meth : Method} {c : Code} {Q : State → Prop} {D : va_G} {cT : Nat → ClassId} {ex : Nat → Nat → Nat} {A : Nat → Prop} {xs : Nat → Int32} {sa : Nat}
set_option maxHeartbeats 1000000 in
theorem rvOp4_at {sc : List (Int × Int)} {a1 : Int × Int} (C : rvCx p s m args meth c code RL 7 D cT ex A false sc) (hl : l.stackTraces = false) (hPx : rvPx sa A s s.heap) (hrun : rvPr a1)
    (k : rvG p l e room_1 s m args below meth c Q D cT ex A 7 (377, rvAl0, [rvK 1], rvAw0, 133, 19074)) : rvG p l e room_1 s m args below meth c Q D cT ex A 7 (374, rvAl0, [.inr (2, 131), rvTop, .inl a1, .inr (2, 0)], rvAw0, 132, 19068) := by
  obtain ⟨hx, hb, hml, hown, hts, hK, hA, hX, hini, hsc⟩ := C
  intro ws H locs ls stk hw hl1 hs hP hD hS
  dsimp only at hw hl1 hs ⊢
  have hls : ls.size = 7 := by obtain ⟨-, l9, h9, -⟩ := hl1; exact h9.1
  obtain ⟨x3, stk3, rfl, ⟨q3, hq3, rfl⟩, hs3⟩ := rvRs_cons hs
  obtain ⟨x2, stk2, rfl, ⟨n2, rfl, -, -⟩, hs2⟩ := rvRs_cons hs3
  obtain ⟨x1, stk1, rfl, ⟨n1, rfl, p1, q1⟩, hs1⟩ := rvRs_cons hs2
  obtain ⟨x0, stk0, rfl, ⟨q0, hq0, rfl⟩, hs0⟩ := rvRs_cons hs1
  have hnil := rvRs_nil hs0
  subst hnil
  have hM9 := rv_personL (l := l) (D := D) (sz := H.size) (sa := sa) (xs := [.ref q0, .int n1, .int n2, .ref q3]) hl hrun hw.1 ⟨⟨q0, hq0, rfl⟩, ⟨n1, rfl, p1, q1⟩, rvR_top n2, ⟨q3, hq3, rfl⟩, trivial⟩
  have cw : vx_CSW room_1 s args RL 38 yL_person cL_person 5 (some .int) [(0, 10, 13, 13)] (.codeWith yL_person cL_person 5 (some .int) [(0, 10, 13, 13)] :: rvWl) { frames := 12, cells := 1, slots := 6, locals := 300 } 1 6 4 :=
    vx_cwSW 4 hts (rvGood_cons (rvW_ok rvLw_l) (rvGood_cons (rvW_ok rvLw_s) (rvGood_cons (rvW_ok rvLw_i) (rvGood_cons (rvW_ok rvLw_c) rvGood_self)))) rfl rfl rfl ⟨by decide +kernel, by decide +kernel, by decide +kernel⟩ ⟨by show 12 + 1 ≤ 2048; decide, by show 8 + (5 + 11) + 300 ≤ 84000; decide⟩
  have hrn := vx_runSX (g := F0 m 374 ls [.ref q3, .int n2, .int n1, .ref q0]) (locs := locs) (cells := 132) (slots := 19068) (As := [.ref q0, .int n1, .int n2, .ref q3]) (rest := []) (nL := 7) (e := e) (below := below) (meth := meth) ⟨hx, hb, hml, hown, hts⟩ hM9 cw ⟨rv_blindx, rv_prex hK hX hPx hA hP hD hS⟩ rfl rfl hls rfl (lv_room (by decide)) rvLd_374 ⟨by show 132 + 1 ≤ 600002; decide, by show 19068 + 6 ≤ 7302232; decide⟩
  have hr : va_Run p l e room_1 s m args below meth c H locs 132 19068 1 6 (F0 m 374 ls [.ref q3, .int n2, .int n1, .ref q0]) [] (rvQ D cT ex ws H.size (some (rvK 1), rvAw0) [.ref q0, .int n1, .int n2, .ref q3].toArray) (va_A ws H.size) := by
    intro T hT X
    rcases hrn T hT X with h | ⟨q9, st₀, t, T', L, E, ce, h0, X', hL, e1, e2, hF, -⟩
    · exact h
    · exact absurd hF id
  exact rv_go hA (fun _ _ => rfl) hr hw hl1 (rst := []) trivial hD hS k
theorem rvOp_4 (hC : ∀ sc, rvSx ex A s sc → rvCx p s m args meth c code RL 7 D cT ex A false sc) (h6 : va_X (ex 5 0) 6 xs s s.heap ∧ ex 5 0 < s.heap.size ∧ ¬ A (ex 5 0)) (K : rvEnds p l e s m args below meth c Q D cT ex A) (hl : l.stackTraces = false) (hPx : rvPx sa A s s.heap) : rvG p l e room_1 s m args below meth c Q D cT ex A 7 (40, rvAl0, [.inl (4, 4)], rvAw0, 132, 19068) := by
  refine rvSw hC rvSw_4 ?_
  rcases (show (-2147483648 ≤ (xs 1).toInt ∧ (xs 1).toInt ≤ -1) ∨ (0 ≤ (xs 1).toInt ∧ (xs 1).toInt ≤ 2147483647) by have := rv_lo (xs 1); have := rv_hi (xs 1); omega) with ⟨g0, g1⟩ | ⟨g0, g1⟩
  · have C := hC _ (rvSx6 (a1 := (-2147483648, -1)) h6 ⟨g0, g1⟩ (rv_any _) (rv_any _) (rv_any _) (rv_any _))
    refine rvRun_ok C rvBase_ok (fun _ _ => rfl) mQ_all xQ_ok tQ_4 (Nat.le_refl 2048) (Nat.le_refl 600002) (Nat.le_refl 7302232) (Nat.le_refl 84000) (rvOp4_at C hl hPx rvPr_0 ?_) 100 360 rvAl0 [] rvAw0 132 19068 q4_0
    obtain ⟨al1, aw1, kc1, ks1, he, h1, h2, h3, h4⟩ := rvGd_ok r4_0
    exact rvRun_ok C rvBase_ok (fun _ _ => rfl) mQ_all xQ_ok tQ_4 (Nat.le_refl 2048) (Nat.le_refl 600002) (Nat.le_refl 7302232) (Nat.le_refl 84000) (K al1 aw1 kc1 ks1 h1 h2 h3 h4) 100 377 rvAl0 [rvK 1] rvAw0 133 19074 he
  · have C := hC _ (rvSx6 (a1 := (0, 2147483647)) h6 ⟨g0, g1⟩ (rv_any _) (rv_any _) (rv_any _) (rv_any _))
    refine rvRun_ok C rvBase_ok (fun _ _ => rfl) mQ_all xQ_ok tQ_4 (Nat.le_refl 2048) (Nat.le_refl 600002) (Nat.le_refl 7302232) (Nat.le_refl 84000) (rvOp4_at C hl hPx rvPr_1 ?_) 100 360 rvAl0 [] rvAw0 132 19068 q4_1
    obtain ⟨al1, aw1, kc1, ks1, he, h1, h2, h3, h4⟩ := rvGd_ok r4_1
    exact rvRun_ok C rvBase_ok (fun _ _ => rfl) mQ_all xQ_ok tQ_4 (Nat.le_refl 2048) (Nat.le_refl 600002) (Nat.le_refl 7302232) (Nat.le_refl 84000) (K al1 aw1 kc1 ks1 h1 h2 h3 h4) 100 377 rvAl0 [rvK 1] rvAw0 133 19074 he
end RVP4
end
