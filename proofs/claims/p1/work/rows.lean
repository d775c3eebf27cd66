section
-- ===== PART A: goes FIRST, ahead of the names: the tables' words, and 'selects' of the private methods out of them =====
/-- a private method of a class that the tables say can be made, by its rows of tables_1 -/
def lw_okq (q : MethodName × Nat) : Prop := (q.1.cls ≠ "java/lang/invoke/MethodHandle" ∧ q.1.cls ≠ "java/lang/invoke/VarHandle") ∧ Cond.instantiable q.1.cls q.2 ∈ tables_1 ∧ Cond.privateMethod q.1 ∈ tables_1 ∧ Cond.instanceMethod q.1 ∈ tables_1
theorem lw_p0 : lw_okq (⟨"OboeDistrict$Tape", "scanToken", "(I)I"⟩, 15) := ⟨⟨by decide +kernel, by decide +kernel⟩, List.mem_of_getElem? (i := 35) (by decide +kernel), List.mem_of_getElem? (i := 514) (by decide +kernel), List.mem_of_getElem? (i := 515) (by decide +kernel)⟩
theorem lw_p1 : lw_okq (⟨"OboeDistrict$Tape", "scanRun", "()I"⟩, 15) := ⟨⟨by decide +kernel, by decide +kernel⟩, List.mem_of_getElem? (i := 35) (by decide +kernel), List.mem_of_getElem? (i := 527) (by decide +kernel), List.mem_of_getElem? (i := 528) (by decide +kernel)⟩
theorem lw_p2 : lw_okq (⟨"OboeDistrict$Tape", "wordOf", "(J)I"⟩, 15) := ⟨⟨by decide +kernel, by decide +kernel⟩, List.mem_of_getElem? (i := 35) (by decide +kernel), List.mem_of_getElem? (i := 531) (by decide +kernel), List.mem_of_getElem? (i := 532) (by decide +kernel)⟩
theorem lw_p3 : lw_okq (⟨"OboeDistrict$Life", "gatherSetsOfEach", "()V"⟩, 11) := ⟨⟨by decide +kernel, by decide +kernel⟩, List.mem_of_getElem? (i := 356) (by decide +kernel), List.mem_of_getElem? (i := 553) (by decide +kernel), List.mem_of_getElem? (i := 554) (by decide +kernel)⟩
theorem lw_p4 : lw_okq (⟨"OboeDistrict$Life", "gatherDues", "()V"⟩, 11) := ⟨⟨by decide +kernel, by decide +kernel⟩, List.mem_of_getElem? (i := 356) (by decide +kernel), List.mem_of_getElem? (i := 561) (by decide +kernel), List.mem_of_getElem? (i := 562) (by decide +kernel)⟩
theorem lw_p5 : lw_okq (⟨"OboeDistrict$DistrictReader", "readLine", "()Z"⟩, 3) := ⟨⟨by decide +kernel, by decide +kernel⟩, List.mem_of_getElem? (i := 158) (by decide +kernel), List.mem_of_getElem? (i := 575) (by decide +kernel), List.mem_of_getElem? (i := 576) (by decide +kernel)⟩
theorem lw_p6 : lw_okq (⟨"OboeDistrict$DistrictReader", "readNew", "(I)Z"⟩, 3) := ⟨⟨by decide +kernel, by decide +kernel⟩, List.mem_of_getElem? (i := 158) (by decide +kernel), List.mem_of_getElem? (i := 590) (by decide +kernel), List.mem_of_getElem? (i := 591) (by decide +kernel)⟩
theorem lw_p7 : lw_okq (⟨"OboeDistrict$DistrictReader", "readPerson", "(I)Z"⟩, 3) := ⟨⟨by decide +kernel, by decide +kernel⟩, List.mem_of_getElem? (i := 158) (by decide +kernel), List.mem_of_getElem? (i := 606) (by decide +kernel), List.mem_of_getElem? (i := 607) (by decide +kernel)⟩
theorem lw_p8 : lw_okq (⟨"OboeDistrict$DistrictReader", "readShare", "(I)Z"⟩, 3) := ⟨⟨by decide +kernel, by decide +kernel⟩, List.mem_of_getElem? (i := 158) (by decide +kernel), List.mem_of_getElem? (i := 627) (by decide +kernel), List.mem_of_getElem? (i := 628) (by decide +kernel)⟩
theorem lw_p9 : lw_okq (⟨"OboeDistrict$DistrictReader", "readTie", "(I)Z"⟩, 3) := ⟨⟨by decide +kernel, by decide +kernel⟩, List.mem_of_getElem? (i := 158) (by decide +kernel), List.mem_of_getElem? (i := 634) (by decide +kernel), List.mem_of_getElem? (i := 635) (by decide +kernel)⟩
theorem lw_p10 : lw_okq (⟨"OboeDistrict$DistrictReader", "isTied", "(III)Z"⟩, 3) := ⟨⟨by decide +kernel, by decide +kernel⟩, List.mem_of_getElem? (i := 158) (by decide +kernel), List.mem_of_getElem? (i := 638) (by decide +kernel), List.mem_of_getElem? (i := 639) (by decide +kernel)⟩
theorem lw_p11 : lw_okq (⟨"OboeDistrict$DistrictReader", "tie", "(III)Z"⟩, 3) := ⟨⟨by decide +kernel, by decide +kernel⟩, List.mem_of_getElem? (i := 158) (by decide +kernel), List.mem_of_getElem? (i := 643) (by decide +kernel), List.mem_of_getElem? (i := 644) (by decide +kernel)⟩
theorem lw_p12 : lw_okq (⟨"OboeDistrict$Book", "readLine", "(LOboeDistrict$Tape;LOboeDistrict$Town;)Z"⟩, 9) := ⟨⟨by decide +kernel, by decide +kernel⟩, List.mem_of_getElem? (i := 194) (by decide +kernel), List.mem_of_getElem? (i := 679) (by decide +kernel), List.mem_of_getElem? (i := 680) (by decide +kernel)⟩
theorem lw_p13 : lw_okq (⟨"OboeDistrict$Book", "readYear", "(LOboeDistrict$Tape;)Z"⟩, 9) := ⟨⟨by decide +kernel, by decide +kernel⟩, List.mem_of_getElem? (i := 194) (by decide +kernel), List.mem_of_getElem? (i := 687) (by decide +kernel), List.mem_of_getElem? (i := 688) (by decide +kernel)⟩
theorem lw_p14 : lw_okq (⟨"OboeDistrict$Book", "readDeed", "(LOboeDistrict$Tape;LOboeDistrict$Town;)Z"⟩, 9) := ⟨⟨by decide +kernel, by decide +kernel⟩, List.mem_of_getElem? (i := 194) (by decide +kernel), List.mem_of_getElem? (i := 692) (by decide +kernel), List.mem_of_getElem? (i := 693) (by decide +kernel)⟩
theorem lw_p15 : lw_okq (⟨"OboeDistrict$Book", "liveLine", "(LOboeDistrict$Life;I)I"⟩, 9) := ⟨⟨by decide +kernel, by decide +kernel⟩, List.mem_of_getElem? (i := 194) (by decide +kernel), List.mem_of_getElem? (i := 702) (by decide +kernel), List.mem_of_getElem? (i := 703) (by decide +kernel)⟩
def lw_privs_1 : List (MethodName × Nat) := [(⟨"OboeDistrict$Tape", "scanToken", "(I)I"⟩, 15), (⟨"OboeDistrict$Tape", "scanRun", "()I"⟩, 15), (⟨"OboeDistrict$Tape", "wordOf", "(J)I"⟩, 15), (⟨"OboeDistrict$Life", "gatherSetsOfEach", "()V"⟩, 11), (⟨"OboeDistrict$Life", "gatherDues", "()V"⟩, 11), (⟨"OboeDistrict$DistrictReader", "readLine", "()Z"⟩, 3), (⟨"OboeDistrict$DistrictReader", "readNew", "(I)Z"⟩, 3), (⟨"OboeDistrict$DistrictReader", "readPerson", "(I)Z"⟩, 3), (⟨"OboeDistrict$DistrictReader", "readShare", "(I)Z"⟩, 3), (⟨"OboeDistrict$DistrictReader", "readTie", "(I)Z"⟩, 3), (⟨"OboeDistrict$DistrictReader", "isTied", "(III)Z"⟩, 3), (⟨"OboeDistrict$DistrictReader", "tie", "(III)Z"⟩, 3), (⟨"OboeDistrict$Book", "readLine", "(LOboeDistrict$Tape;LOboeDistrict$Town;)Z"⟩, 9), (⟨"OboeDistrict$Book", "readYear", "(LOboeDistrict$Tape;)Z"⟩, 9), (⟨"OboeDistrict$Book", "readDeed", "(LOboeDistrict$Tape;LOboeDistrict$Town;)Z"⟩, 9), (⟨"OboeDistrict$Book", "liveLine", "(LOboeDistrict$Life;I)I"⟩, 9)]
theorem lw_r1 : ∀ q ∈ lw_privs_1, lw_okq q := List.forall_mem_cons.mpr ⟨lw_p0, List.forall_mem_cons.mpr ⟨lw_p1, List.forall_mem_cons.mpr ⟨lw_p2, List.forall_mem_cons.mpr ⟨lw_p3, List.forall_mem_cons.mpr ⟨lw_p4, List.forall_mem_cons.mpr ⟨lw_p5, List.forall_mem_cons.mpr ⟨lw_p6, List.forall_mem_cons.mpr ⟨lw_p7, List.forall_mem_cons.mpr ⟨lw_p8, List.forall_mem_cons.mpr ⟨lw_p9, List.forall_mem_cons.mpr ⟨lw_p10, List.forall_mem_cons.mpr ⟨lw_p11, List.forall_mem_cons.mpr ⟨lw_p12, List.forall_mem_cons.mpr ⟨lw_p13, List.forall_mem_cons.mpr ⟨lw_p14, List.forall_mem_cons.mpr ⟨lw_p15, fun _ h => absurd h List.not_mem_nil⟩⟩⟩⟩⟩⟩⟩⟩⟩⟩⟩⟩⟩⟩⟩⟩
theorem lw_p16 : lw_okq (⟨"OboeDistrict$Life", "bestChange", "(I)I"⟩, 11) := ⟨⟨by decide +kernel, by decide +kernel⟩, List.mem_of_getElem? (i := 356) (by decide +kernel), List.mem_of_getElem? (i := 714) (by decide +kernel), List.mem_of_getElem? (i := 715) (by decide +kernel)⟩
theorem lw_p17 : lw_okq (⟨"OboeDistrict$Life", "turnMark", "(IIZ)I"⟩, 11) := ⟨⟨by decide +kernel, by decide +kernel⟩, List.mem_of_getElem? (i := 356) (by decide +kernel), List.mem_of_getElem? (i := 730) (by decide +kernel), List.mem_of_getElem? (i := 731) (by decide +kernel)⟩
theorem lw_p18 : lw_okq (⟨"OboeDistrict$Past", "dropOldest", "()V"⟩, 2) := ⟨⟨by decide +kernel, by decide +kernel⟩, List.mem_of_getElem? (i := 420) (by decide +kernel), List.mem_of_getElem? (i := 754) (by decide +kernel), List.mem_of_getElem? (i := 755) (by decide +kernel)⟩
theorem lw_p19 : lw_okq (⟨"OboeDistrict$SentenceReader", "readCond", "(I)Z"⟩, 4) := ⟨⟨by decide +kernel, by decide +kernel⟩, List.mem_of_getElem? (i := 175) (by decide +kernel), List.mem_of_getElem? (i := 797) (by decide +kernel), List.mem_of_getElem? (i := 798) (by decide +kernel)⟩
theorem lw_p20 : lw_okq (⟨"OboeDistrict$SentenceReader", "readAll", "(I)Z"⟩, 4) := ⟨⟨by decide +kernel, by decide +kernel⟩, List.mem_of_getElem? (i := 175) (by decide +kernel), List.mem_of_getElem? (i := 801) (by decide +kernel), List.mem_of_getElem? (i := 802) (by decide +kernel)⟩
theorem lw_p21 : lw_okq (⟨"OboeDistrict$SentenceReader", "readOne", "(I)Z"⟩, 4) := ⟨⟨by decide +kernel, by decide +kernel⟩, List.mem_of_getElem? (i := 175) (by decide +kernel), List.mem_of_getElem? (i := 805) (by decide +kernel), List.mem_of_getElem? (i := 806) (by decide +kernel)⟩
theorem lw_p22 : lw_okq (⟨"OboeDistrict$SentenceReader", "readNamed", "(II)Z"⟩, 4) := ⟨⟨by decide +kernel, by decide +kernel⟩, List.mem_of_getElem? (i := 175) (by decide +kernel), List.mem_of_getElem? (i := 821) (by decide +kernel), List.mem_of_getElem? (i := 822) (by decide +kernel)⟩
theorem lw_p23 : lw_okq (⟨"OboeDistrict$SentenceReader", "readComparison", "(I)Z"⟩, 4) := ⟨⟨by decide +kernel, by decide +kernel⟩, List.mem_of_getElem? (i := 175) (by decide +kernel), List.mem_of_getElem? (i := 826) (by decide +kernel), List.mem_of_getElem? (i := 827) (by decide +kernel)⟩
theorem lw_p24 : lw_okq (⟨"OboeDistrict$Sentence", "groupOf", "(LOboeDistrict$Life;I)I"⟩, 5) := ⟨⟨by decide +kernel, by decide +kernel⟩, List.mem_of_getElem? (i := 770) (by decide +kernel), List.mem_of_getElem? (i := 841) (by decide +kernel), List.mem_of_getElem? (i := 842) (by decide +kernel)⟩
theorem lw_p25 : lw_okq (⟨"OboeDistrict$Sentence", "groupByNumbers", "(LOboeDistrict$Life;I)I"⟩, 5) := ⟨⟨by decide +kernel, by decide +kernel⟩, List.mem_of_getElem? (i := 770) (by decide +kernel), List.mem_of_getElem? (i := 845) (by decide +kernel), List.mem_of_getElem? (i := 846) (by decide +kernel)⟩
theorem lw_p26 : lw_okq (⟨"OboeDistrict", "isPerson", "(I)Z"⟩, 15) := ⟨⟨by decide +kernel, by decide +kernel⟩, List.mem_of_getElem? (i := 27) (by decide +kernel), List.mem_of_getElem? (i := 868) (by decide +kernel), List.mem_of_getElem? (i := 869) (by decide +kernel)⟩
theorem lw_p27 : lw_okq (⟨"OboeDistrict", "isMark", "(I)Z"⟩, 15) := ⟨⟨by decide +kernel, by decide +kernel⟩, List.mem_of_getElem? (i := 27) (by decide +kernel), List.mem_of_getElem? (i := 872) (by decide +kernel), List.mem_of_getElem? (i := 873) (by decide +kernel)⟩
theorem lw_p28 : lw_okq (⟨"OboeDistrict", "isSet", "(I)Z"⟩, 15) := ⟨⟨by decide +kernel, by decide +kernel⟩, List.mem_of_getElem? (i := 27) (by decide +kernel), List.mem_of_getElem? (i := 884) (by decide +kernel), List.mem_of_getElem? (i := 885) (by decide +kernel)⟩
theorem lw_p29 : lw_okq (⟨"OboeDistrict$Plate", "putName", "(J)V"⟩, 2) := ⟨⟨by decide +kernel, by decide +kernel⟩, List.mem_of_getElem? (i := 293) (by decide +kernel), List.mem_of_getElem? (i := 936) (by decide +kernel), List.mem_of_getElem? (i := 937) (by decide +kernel)⟩
theorem lw_p30 : lw_okq (⟨"OboeDistrict$Plate", "putByte", "(I)V"⟩, 2) := ⟨⟨by decide +kernel, by decide +kernel⟩, List.mem_of_getElem? (i := 293) (by decide +kernel), List.mem_of_getElem? (i := 940) (by decide +kernel), List.mem_of_getElem? (i := 941) (by decide +kernel)⟩
theorem lw_p31 : lw_okq (⟨"OboeDistrict$Plate", "putText", "(Ljava/lang/String;)V"⟩, 2) := ⟨⟨by decide +kernel, by decide +kernel⟩, List.mem_of_getElem? (i := 293) (by decide +kernel), List.mem_of_getElem? (i := 946) (by decide +kernel), List.mem_of_getElem? (i := 947) (by decide +kernel)⟩
def lw_privs_2 : List (MethodName × Nat) := [(⟨"OboeDistrict$Life", "bestChange", "(I)I"⟩, 11), (⟨"OboeDistrict$Life", "turnMark", "(IIZ)I"⟩, 11), (⟨"OboeDistrict$Past", "dropOldest", "()V"⟩, 2), (⟨"OboeDistrict$SentenceReader", "readCond", "(I)Z"⟩, 4), (⟨"OboeDistrict$SentenceReader", "readAll", "(I)Z"⟩, 4), (⟨"OboeDistrict$SentenceReader", "readOne", "(I)Z"⟩, 4), (⟨"OboeDistrict$SentenceReader", "readNamed", "(II)Z"⟩, 4), (⟨"OboeDistrict$SentenceReader", "readComparison", "(I)Z"⟩, 4), (⟨"OboeDistrict$Sentence", "groupOf", "(LOboeDistrict$Life;I)I"⟩, 5), (⟨"OboeDistrict$Sentence", "groupByNumbers", "(LOboeDistrict$Life;I)I"⟩, 5), (⟨"OboeDistrict", "isPerson", "(I)Z"⟩, 15), (⟨"OboeDistrict", "isMark", "(I)Z"⟩, 15), (⟨"OboeDistrict", "isSet", "(I)Z"⟩, 15), (⟨"OboeDistrict$Plate", "putName", "(J)V"⟩, 2), (⟨"OboeDistrict$Plate", "putByte", "(I)V"⟩, 2), (⟨"OboeDistrict$Plate", "putText", "(Ljava/lang/String;)V"⟩, 2)]
theorem lw_r2 : ∀ q ∈ lw_privs_2, lw_okq q := List.forall_mem_cons.mpr ⟨lw_p16, List.forall_mem_cons.mpr ⟨lw_p17, List.forall_mem_cons.mpr ⟨lw_p18, List.forall_mem_cons.mpr ⟨lw_p19, List.forall_mem_cons.mpr ⟨lw_p20, List.forall_mem_cons.mpr ⟨lw_p21, List.forall_mem_cons.mpr ⟨lw_p22, List.forall_mem_cons.mpr ⟨lw_p23, List.forall_mem_cons.mpr ⟨lw_p24, List.forall_mem_cons.mpr ⟨lw_p25, List.forall_mem_cons.mpr ⟨lw_p26, List.forall_mem_cons.mpr ⟨lw_p27, List.forall_mem_cons.mpr ⟨lw_p28, List.forall_mem_cons.mpr ⟨lw_p29, List.forall_mem_cons.mpr ⟨lw_p30, List.forall_mem_cons.mpr ⟨lw_p31, fun _ h => absurd h List.not_mem_nil⟩⟩⟩⟩⟩⟩⟩⟩⟩⟩⟩⟩⟩⟩⟩⟩
theorem lw_p32 : lw_okq (⟨"OboeDistrict", "doneOrWhyNot", "(III)I"⟩, 15) := ⟨⟨by decide +kernel, by decide +kernel⟩, List.mem_of_getElem? (i := 27) (by decide +kernel), List.mem_of_getElem? (i := 965) (by decide +kernel), List.mem_of_getElem? (i := 966) (by decide +kernel)⟩
theorem lw_p33 : lw_okq (⟨"OboeDistrict", "isStreet", "(I)Z"⟩, 15) := ⟨⟨by decide +kernel, by decide +kernel⟩, List.mem_of_getElem? (i := 27) (by decide +kernel), List.mem_of_getElem? (i := 978) (by decide +kernel), List.mem_of_getElem? (i := 979) (by decide +kernel)⟩
theorem lw_p34 : lw_okq (⟨"OboeDistrict$Life", "actByDraws", "()V"⟩, 11) := ⟨⟨by decide +kernel, by decide +kernel⟩, List.mem_of_getElem? (i := 356) (by decide +kernel), List.mem_of_getElem? (i := 1004) (by decide +kernel), List.mem_of_getElem? (i := 1005) (by decide +kernel)⟩
theorem lw_p35 : lw_okq (⟨"OboeDistrict$Life", "drawOf", "(I)I"⟩, 11) := ⟨⟨by decide +kernel, by decide +kernel⟩, List.mem_of_getElem? (i := 356) (by decide +kernel), List.mem_of_getElem? (i := 1008) (by decide +kernel), List.mem_of_getElem? (i := 1009) (by decide +kernel)⟩
theorem lw_p36 : lw_okq (⟨"OboeDistrict$Life", "turnMarkByDraw", "(I)V"⟩, 11) := ⟨⟨by decide +kernel, by decide +kernel⟩, List.mem_of_getElem? (i := 356) (by decide +kernel), List.mem_of_getElem? (i := 1014) (by decide +kernel), List.mem_of_getElem? (i := 1015) (by decide +kernel)⟩
theorem lw_p37 : lw_okq (⟨"OboeDistrict$Search", "fillBurdens", "(LOboeDistrict$Town;I)V"⟩, 10) := ⟨⟨by decide +kernel, by decide +kernel⟩, List.mem_of_getElem? (i := 228) (by decide +kernel), List.mem_of_getElem? (i := 1042) (by decide +kernel), List.mem_of_getElem? (i := 1043) (by decide +kernel)⟩
theorem lw_p38 : lw_okq (⟨"OboeDistrict$Search", "fillOffs", "(LOboeDistrict$Life;I)I"⟩, 10) := ⟨⟨by decide +kernel, by decide +kernel⟩, List.mem_of_getElem? (i := 228) (by decide +kernel), List.mem_of_getElem? (i := 1047) (by decide +kernel), List.mem_of_getElem? (i := 1048) (by decide +kernel)⟩
theorem lw_p39 : lw_okq (⟨"OboeDistrict$Search", "findLeast", "(LOboeDistrict$Life;I)V"⟩, 10) := ⟨⟨by decide +kernel, by decide +kernel⟩, List.mem_of_getElem? (i := 228) (by decide +kernel), List.mem_of_getElem? (i := 1055) (by decide +kernel), List.mem_of_getElem? (i := 1056) (by decide +kernel)⟩
theorem lw_p40 : lw_okq (⟨"OboeDistrict$Search", "sumOfBurdens", "(I)I"⟩, 10) := ⟨⟨by decide +kernel, by decide +kernel⟩, List.mem_of_getElem? (i := 228) (by decide +kernel), List.mem_of_getElem? (i := 1059) (by decide +kernel), List.mem_of_getElem? (i := 1060) (by decide +kernel)⟩
theorem lw_p41 : lw_okq (⟨"OboeDistrict$Search", "fillPossible", "(LOboeDistrict$Life;I)V"⟩, 10) := ⟨⟨by decide +kernel, by decide +kernel⟩, List.mem_of_getElem? (i := 228) (by decide +kernel), List.mem_of_getElem? (i := 1081) (by decide +kernel), List.mem_of_getElem? (i := 1082) (by decide +kernel)⟩
theorem lw_p42 : lw_okq (⟨"OboeDistrict$Search", "fillShared", "(I)V"⟩, 10) := ⟨⟨by decide +kernel, by decide +kernel⟩, List.mem_of_getElem? (i := 228) (by decide +kernel), List.mem_of_getElem? (i := 1119) (by decide +kernel), List.mem_of_getElem? (i := 1120) (by decide +kernel)⟩
theorem lw_p43 : lw_okq (⟨"OboeDistrict$Tally", "findInEach", "()V"⟩, 5) := ⟨⟨by decide +kernel, by decide +kernel⟩, List.mem_of_getElem? (i := 269) (by decide +kernel), List.mem_of_getElem? (i := 1148) (by decide +kernel), List.mem_of_getElem? (i := 1149) (by decide +kernel)⟩
theorem lw_p44 : lw_okq (⟨"OboeDistrict$Tally", "findNextSet", "(LOboeDistrict$Life;)V"⟩, 5) := ⟨⟨by decide +kernel, by decide +kernel⟩, List.mem_of_getElem? (i := 269) (by decide +kernel), List.mem_of_getElem? (i := 1152) (by decide +kernel), List.mem_of_getElem? (i := 1153) (by decide +kernel)⟩
theorem lw_p45 : lw_okq (⟨"OboeDistrict$Tally", "mostLeftBy", "(I)I"⟩, 5) := ⟨⟨by decide +kernel, by decide +kernel⟩, List.mem_of_getElem? (i := 269) (by decide +kernel), List.mem_of_getElem? (i := 1156) (by decide +kernel), List.mem_of_getElem? (i := 1157) (by decide +kernel)⟩
theorem lw_p46 : lw_okq (⟨"OboeDistrict", "isTram", "(I)Z"⟩, 15) := ⟨⟨by decide +kernel, by decide +kernel⟩, List.mem_of_getElem? (i := 27) (by decide +kernel), List.mem_of_getElem? (i := 1174) (by decide +kernel), List.mem_of_getElem? (i := 1175) (by decide +kernel)⟩
theorem lw_p47 : lw_okq (⟨"java/lang/Throwable", "fillInStackTrace", "(I)Ljava/lang/Throwable;"⟩, 6) := ⟨⟨by decide +kernel, by decide +kernel⟩, List.mem_of_getElem? (i := 1235) (by decide +kernel), List.mem_of_getElem? (i := 1233) (by decide +kernel), List.mem_of_getElem? (i := 1234) (by decide +kernel)⟩
def lw_privs_3 : List (MethodName × Nat) := [(⟨"OboeDistrict", "doneOrWhyNot", "(III)I"⟩, 15), (⟨"OboeDistrict", "isStreet", "(I)Z"⟩, 15), (⟨"OboeDistrict$Life", "actByDraws", "()V"⟩, 11), (⟨"OboeDistrict$Life", "drawOf", "(I)I"⟩, 11), (⟨"OboeDistrict$Life", "turnMarkByDraw", "(I)V"⟩, 11), (⟨"OboeDistrict$Search", "fillBurdens", "(LOboeDistrict$Town;I)V"⟩, 10), (⟨"OboeDistrict$Search", "fillOffs", "(LOboeDistrict$Life;I)I"⟩, 10), (⟨"OboeDistrict$Search", "findLeast", "(LOboeDistrict$Life;I)V"⟩, 10), (⟨"OboeDistrict$Search", "sumOfBurdens", "(I)I"⟩, 10), (⟨"OboeDistrict$Search", "fillPossible", "(LOboeDistrict$Life;I)V"⟩, 10), (⟨"OboeDistrict$Search", "fillShared", "(I)V"⟩, 10), (⟨"OboeDistrict$Tally", "findInEach", "()V"⟩, 5), (⟨"OboeDistrict$Tally", "findNextSet", "(LOboeDistrict$Life;)V"⟩, 5), (⟨"OboeDistrict$Tally", "mostLeftBy", "(I)I"⟩, 5), (⟨"OboeDistrict", "isTram", "(I)Z"⟩, 15), (⟨"java/lang/Throwable", "fillInStackTrace", "(I)Ljava/lang/Throwable;"⟩, 6)]
theorem lw_r3 : ∀ q ∈ lw_privs_3, lw_okq q := List.forall_mem_cons.mpr ⟨lw_p32, List.forall_mem_cons.mpr ⟨lw_p33, List.forall_mem_cons.mpr ⟨lw_p34, List.forall_mem_cons.mpr ⟨lw_p35, List.forall_mem_cons.mpr ⟨lw_p36, List.forall_mem_cons.mpr ⟨lw_p37, List.forall_mem_cons.mpr ⟨lw_p38, List.forall_mem_cons.mpr ⟨lw_p39, List.forall_mem_cons.mpr ⟨lw_p40, List.forall_mem_cons.mpr ⟨lw_p41, List.forall_mem_cons.mpr ⟨lw_p42, List.forall_mem_cons.mpr ⟨lw_p43, List.forall_mem_cons.mpr ⟨lw_p44, List.forall_mem_cons.mpr ⟨lw_p45, List.forall_mem_cons.mpr ⟨lw_p46, List.forall_mem_cons.mpr ⟨lw_p47, fun _ h => absurd h List.not_mem_nil⟩⟩⟩⟩⟩⟩⟩⟩⟩⟩⟩⟩⟩⟩⟩⟩
theorem lw_p48 : lw_okq (⟨"OboeDistrictModel", "four", "(I)V"⟩, 55) := ⟨⟨by decide +kernel, by decide +kernel⟩, List.mem_of_getElem? (i := 1282) (by decide +kernel), List.mem_of_getElem? (i := 1280) (by decide +kernel), List.mem_of_getElem? (i := 1281) (by decide +kernel)⟩
theorem lw_p49 : lw_okq (⟨"OboeDistrictModel", "taken", "(I)V"⟩, 55) := ⟨⟨by decide +kernel, by decide +kernel⟩, List.mem_of_getElem? (i := 1282) (by decide +kernel), List.mem_of_getElem? (i := 1487) (by decide +kernel), List.mem_of_getElem? (i := 1488) (by decide +kernel)⟩
theorem lw_p50 : lw_okq (⟨"OboeDistrictModel", "next", "()V"⟩, 55) := ⟨⟨by decide +kernel, by decide +kernel⟩, List.mem_of_getElem? (i := 1282) (by decide +kernel), List.mem_of_getElem? (i := 1491) (by decide +kernel), List.mem_of_getElem? (i := 1492) (by decide +kernel)⟩
theorem lw_p51 : lw_okq (⟨"OboeDistrictModel", "peek", "()I"⟩, 55) := ⟨⟨by decide +kernel, by decide +kernel⟩, List.mem_of_getElem? (i := 1282) (by decide +kernel), List.mem_of_getElem? (i := 1495) (by decide +kernel), List.mem_of_getElem? (i := 1496) (by decide +kernel)⟩
theorem lw_p52 : lw_okq (⟨"OboeDistrictModel", "line", "()Z"⟩, 55) := ⟨⟨by decide +kernel, by decide +kernel⟩, List.mem_of_getElem? (i := 1282) (by decide +kernel), List.mem_of_getElem? (i := 1505) (by decide +kernel), List.mem_of_getElem? (i := 1506) (by decide +kernel)⟩
theorem lw_p53 : lw_okq (⟨"OboeDistrictModel", "isWord", "(J)Z"⟩, 55) := ⟨⟨by decide +kernel, by decide +kernel⟩, List.mem_of_getElem? (i := 1282) (by decide +kernel), List.mem_of_getElem? (i := 1509) (by decide +kernel), List.mem_of_getElem? (i := 1510) (by decide +kernel)⟩
theorem lw_p54 : lw_okq (⟨"OboeDistrictModel", "readName", "(III)Z"⟩, 55) := ⟨⟨by decide +kernel, by decide +kernel⟩, List.mem_of_getElem? (i := 1282) (by decide +kernel), List.mem_of_getElem? (i := 1513) (by decide +kernel), List.mem_of_getElem? (i := 1514) (by decide +kernel)⟩
theorem lw_p55 : lw_okq (⟨"OboeDistrictModel", "bad", "(I)Z"⟩, 55) := ⟨⟨by decide +kernel, by decide +kernel⟩, List.mem_of_getElem? (i := 1282) (by decide +kernel), List.mem_of_getElem? (i := 1517) (by decide +kernel), List.mem_of_getElem? (i := 1518) (by decide +kernel)⟩
theorem lw_p56 : lw_okq (⟨"OboeDistrictModel", "fresh", "(I)Z"⟩, 55) := ⟨⟨by decide +kernel, by decide +kernel⟩, List.mem_of_getElem? (i := 1282) (by decide +kernel), List.mem_of_getElem? (i := 1521) (by decide +kernel), List.mem_of_getElem? (i := 1522) (by decide +kernel)⟩
theorem lw_p57 : lw_okq (⟨"OboeDistrictModel", "isName", "()Z"⟩, 55) := ⟨⟨by decide +kernel, by decide +kernel⟩, List.mem_of_getElem? (i := 1282) (by decide +kernel), List.mem_of_getElem? (i := 1525) (by decide +kernel), List.mem_of_getElem? (i := 1526) (by decide +kernel)⟩
theorem lw_p58 : lw_okq (⟨"OboeDistrictModel", "find", "(II)I"⟩, 55) := ⟨⟨by decide +kernel, by decide +kernel⟩, List.mem_of_getElem? (i := 1282) (by decide +kernel), List.mem_of_getElem? (i := 1529) (by decide +kernel), List.mem_of_getElem? (i := 1530) (by decide +kernel)⟩
theorem lw_p59 : lw_okq (⟨"OboeDistrictModel", "readPerson", "()Z"⟩, 55) := ⟨⟨by decide +kernel, by decide +kernel⟩, List.mem_of_getElem? (i := 1282) (by decide +kernel), List.mem_of_getElem? (i := 1533) (by decide +kernel), List.mem_of_getElem? (i := 1534) (by decide +kernel)⟩
theorem lw_p60 : lw_okq (⟨"OboeDistrictModel", "takesName", "(II)Z"⟩, 55) := ⟨⟨by decide +kernel, by decide +kernel⟩, List.mem_of_getElem? (i := 1282) (by decide +kernel), List.mem_of_getElem? (i := 1537) (by decide +kernel), List.mem_of_getElem? (i := 1538) (by decide +kernel)⟩
theorem lw_p61 : lw_okq (⟨"OboeDistrictModel", "looksAt", "(II)Z"⟩, 55) := ⟨⟨by decide +kernel, by decide +kernel⟩, List.mem_of_getElem? (i := 1282) (by decide +kernel), List.mem_of_getElem? (i := 1541) (by decide +kernel), List.mem_of_getElem? (i := 1542) (by decide +kernel)⟩
theorem lw_p62 : lw_okq (⟨"OboeDistrictModel", "puts", "(III)Z"⟩, 55) := ⟨⟨by decide +kernel, by decide +kernel⟩, List.mem_of_getElem? (i := 1282) (by decide +kernel), List.mem_of_getElem? (i := 1545) (by decide +kernel), List.mem_of_getElem? (i := 1546) (by decide +kernel)⟩
theorem lw_p63 : lw_okq (⟨"OboeDistrictModel", "takes", "(II)Z"⟩, 55) := ⟨⟨by decide +kernel, by decide +kernel⟩, List.mem_of_getElem? (i := 1282) (by decide +kernel), List.mem_of_getElem? (i := 1549) (by decide +kernel), List.mem_of_getElem? (i := 1550) (by decide +kernel)⟩
def lw_privs_4 : List (MethodName × Nat) := [(⟨"OboeDistrictModel", "four", "(I)V"⟩, 55), (⟨"OboeDistrictModel", "taken", "(I)V"⟩, 55), (⟨"OboeDistrictModel", "next", "()V"⟩, 55), (⟨"OboeDistrictModel", "peek", "()I"⟩, 55), (⟨"OboeDistrictModel", "line", "()Z"⟩, 55), (⟨"OboeDistrictModel", "isWord", "(J)Z"⟩, 55), (⟨"OboeDistrictModel", "readName", "(III)Z"⟩, 55), (⟨"OboeDistrictModel", "bad", "(I)Z"⟩, 55), (⟨"OboeDistrictModel", "fresh", "(I)Z"⟩, 55), (⟨"OboeDistrictModel", "isName", "()Z"⟩, 55), (⟨"OboeDistrictModel", "find", "(II)I"⟩, 55), (⟨"OboeDistrictModel", "readPerson", "()Z"⟩, 55), (⟨"OboeDistrictModel", "takesName", "(II)Z"⟩, 55), (⟨"OboeDistrictModel", "looksAt", "(II)Z"⟩, 55), (⟨"OboeDistrictModel", "puts", "(III)Z"⟩, 55), (⟨"OboeDistrictModel", "takes", "(II)Z"⟩, 55)]
theorem lw_r4 : ∀ q ∈ lw_privs_4, lw_okq q := List.forall_mem_cons.mpr ⟨lw_p48, List.forall_mem_cons.mpr ⟨lw_p49, List.forall_mem_cons.mpr ⟨lw_p50, List.forall_mem_cons.mpr ⟨lw_p51, List.forall_mem_cons.mpr ⟨lw_p52, List.forall_mem_cons.mpr ⟨lw_p53, List.forall_mem_cons.mpr ⟨lw_p54, List.forall_mem_cons.mpr ⟨lw_p55, List.forall_mem_cons.mpr ⟨lw_p56, List.forall_mem_cons.mpr ⟨lw_p57, List.forall_mem_cons.mpr ⟨lw_p58, List.forall_mem_cons.mpr ⟨lw_p59, List.forall_mem_cons.mpr ⟨lw_p60, List.forall_mem_cons.mpr ⟨lw_p61, List.forall_mem_cons.mpr ⟨lw_p62, List.forall_mem_cons.mpr ⟨lw_p63, fun _ h => absurd h List.not_mem_nil⟩⟩⟩⟩⟩⟩⟩⟩⟩⟩⟩⟩⟩⟩⟩⟩
theorem lw_p64 : lw_okq (⟨"OboeDistrictModel", "pair", "(III)Z"⟩, 55) := ⟨⟨by decide +kernel, by decide +kernel⟩, List.mem_of_getElem? (i := 1282) (by decide +kernel), List.mem_of_getElem? (i := 1559) (by decide +kernel), List.mem_of_getElem? (i := 1560) (by decide +kernel)⟩
theorem lw_p65 : lw_okq (⟨"OboeDistrictModel", "readHate", "()Z"⟩, 55) := ⟨⟨by decide +kernel, by decide +kernel⟩, List.mem_of_getElem? (i := 1282) (by decide +kernel), List.mem_of_getElem? (i := 1566) (by decide +kernel), List.mem_of_getElem? (i := 1567) (by decide +kernel)⟩
theorem lw_p66 : lw_okq (⟨"OboeDistrictModel", "sign", "(I)Z"⟩, 55) := ⟨⟨by decide +kernel, by decide +kernel⟩, List.mem_of_getElem? (i := 1282) (by decide +kernel), List.mem_of_getElem? (i := 1570) (by decide +kernel), List.mem_of_getElem? (i := 1571) (by decide +kernel)⟩
theorem lw_p67 : lw_okq (⟨"OboeDistrictModel", "isSign", "(I)Z"⟩, 55) := ⟨⟨by decide +kernel, by decide +kernel⟩, List.mem_of_getElem? (i := 1282) (by decide +kernel), List.mem_of_getElem? (i := 1574) (by decide +kernel), List.mem_of_getElem? (i := 1575) (by decide +kernel)⟩
theorem lw_p68 : lw_okq (⟨"OboeDistrictModel", "isPerson", "(I)Z"⟩, 55) := ⟨⟨by decide +kernel, by decide +kernel⟩, List.mem_of_getElem? (i := 1282) (by decide +kernel), List.mem_of_getElem? (i := 1586) (by decide +kernel), List.mem_of_getElem? (i := 1587) (by decide +kernel)⟩
theorem lw_p69 : lw_okq (⟨"OboeDistrictModel", "throwsIf", "(Z)Z"⟩, 55) := ⟨⟨by decide +kernel, by decide +kernel⟩, List.mem_of_getElem? (i := 1282) (by decide +kernel), List.mem_of_getElem? (i := 1590) (by decide +kernel), List.mem_of_getElem? (i := 1591) (by decide +kernel)⟩
theorem lw_p70 : lw_okq (⟨"OboeDistrictModel", "isAway", "(I)Z"⟩, 55) := ⟨⟨by decide +kernel, by decide +kernel⟩, List.mem_of_getElem? (i := 1282) (by decide +kernel), List.mem_of_getElem? (i := 1594) (by decide +kernel), List.mem_of_getElem? (i := 1595) (by decide +kernel)⟩
theorem lw_p71 : lw_okq (⟨"OboeDistrictModel", "bearsOf", "(I)I"⟩, 55) := ⟨⟨by decide +kernel, by decide +kernel⟩, List.mem_of_getElem? (i := 1282) (by decide +kernel), List.mem_of_getElem? (i := 1598) (by decide +kernel), List.mem_of_getElem? (i := 1599) (by decide +kernel)⟩
theorem lw_p72 : lw_okq (⟨"OboeDistrictModel", "burdenOf", "(II)I"⟩, 55) := ⟨⟨by decide +kernel, by decide +kernel⟩, List.mem_of_getElem? (i := 1282) (by decide +kernel), List.mem_of_getElem? (i := 1602) (by decide +kernel), List.mem_of_getElem? (i := 1603) (by decide +kernel)⟩
theorem lw_p73 : lw_okq (⟨"OboeDistrictModel", "isMark", "(I)Z"⟩, 55) := ⟨⟨by decide +kernel, by decide +kernel⟩, List.mem_of_getElem? (i := 1282) (by decide +kernel), List.mem_of_getElem? (i := 1610) (by decide +kernel), List.mem_of_getElem? (i := 1611) (by decide +kernel)⟩
theorem lw_p74 : lw_okq (⟨"OboeDistrictModel", "laysSets", "()V"⟩, 55) := ⟨⟨by decide +kernel, by decide +kernel⟩, List.mem_of_getElem? (i := 1282) (by decide +kernel), List.mem_of_getElem? (i := 1618) (by decide +kernel), List.mem_of_getElem? (i := 1619) (by decide +kernel)⟩
theorem lw_p75 : lw_okq (⟨"OboeDistrictModel", "isSet", "(I)Z"⟩, 55) := ⟨⟨by decide +kernel, by decide +kernel⟩, List.mem_of_getElem? (i := 1282) (by decide +kernel), List.mem_of_getElem? (i := 1622) (by decide +kernel), List.mem_of_getElem? (i := 1623) (by decide +kernel)⟩
theorem lw_p76 : lw_okq (⟨"OboeDistrictModel", "setMany", "()I"⟩, 55) := ⟨⟨by decide +kernel, by decide +kernel⟩, List.mem_of_getElem? (i := 1282) (by decide +kernel), List.mem_of_getElem? (i := 1626) (by decide +kernel), List.mem_of_getElem? (i := 1627) (by decide +kernel)⟩
theorem lw_p77 : lw_okq (⟨"OboeDistrictModel", "dueOf", "(II)I"⟩, 55) := ⟨⟨by decide +kernel, by decide +kernel⟩, List.mem_of_getElem? (i := 1282) (by decide +kernel), List.mem_of_getElem? (i := 1637) (by decide +kernel), List.mem_of_getElem? (i := 1638) (by decide +kernel)⟩
theorem lw_p78 : lw_okq (⟨"OboeDistrictModel", "haveSet", "(I)I"⟩, 55) := ⟨⟨by decide +kernel, by decide +kernel⟩, List.mem_of_getElem? (i := 1282) (by decide +kernel), List.mem_of_getElem? (i := 1645) (by decide +kernel), List.mem_of_getElem? (i := 1646) (by decide +kernel)⟩
theorem lw_p79 : lw_okq (⟨"OboeDistrictModel", "offOf", "(II)I"⟩, 55) := ⟨⟨by decide +kernel, by decide +kernel⟩, List.mem_of_getElem? (i := 1282) (by decide +kernel), List.mem_of_getElem? (i := 1657) (by decide +kernel), List.mem_of_getElem? (i := 1658) (by decide +kernel)⟩
def lw_privs_5 : List (MethodName × Nat) := [(⟨"OboeDistrictModel", "pair", "(III)Z"⟩, 55), (⟨"OboeDistrictModel", "readHate", "()Z"⟩, 55), (⟨"OboeDistrictModel", "sign", "(I)Z"⟩, 55), (⟨"OboeDistrictModel", "isSign", "(I)Z"⟩, 55), (⟨"OboeDistrictModel", "isPerson", "(I)Z"⟩, 55), (⟨"OboeDistrictModel", "throwsIf", "(Z)Z"⟩, 55), (⟨"OboeDistrictModel", "isAway", "(I)Z"⟩, 55), (⟨"OboeDistrictModel", "bearsOf", "(I)I"⟩, 55), (⟨"OboeDistrictModel", "burdenOf", "(II)I"⟩, 55), (⟨"OboeDistrictModel", "isMark", "(I)Z"⟩, 55), (⟨"OboeDistrictModel", "laysSets", "()V"⟩, 55), (⟨"OboeDistrictModel", "isSet", "(I)Z"⟩, 55), (⟨"OboeDistrictModel", "setMany", "()I"⟩, 55), (⟨"OboeDistrictModel", "dueOf", "(II)I"⟩, 55), (⟨"OboeDistrictModel", "haveSet", "(I)I"⟩, 55), (⟨"OboeDistrictModel", "offOf", "(II)I"⟩, 55)]
theorem lw_r5 : ∀ q ∈ lw_privs_5, lw_okq q := List.forall_mem_cons.mpr ⟨lw_p64, List.forall_mem_cons.mpr ⟨lw_p65, List.forall_mem_cons.mpr ⟨lw_p66, List.forall_mem_cons.mpr ⟨lw_p67, List.forall_mem_cons.mpr ⟨lw_p68, List.forall_mem_cons.mpr ⟨lw_p69, List.forall_mem_cons.mpr ⟨lw_p70, List.forall_mem_cons.mpr ⟨lw_p71, List.forall_mem_cons.mpr ⟨lw_p72, List.forall_mem_cons.mpr ⟨lw_p73, List.forall_mem_cons.mpr ⟨lw_p74, List.forall_mem_cons.mpr ⟨lw_p75, List.forall_mem_cons.mpr ⟨lw_p76, List.forall_mem_cons.mpr ⟨lw_p77, List.forall_mem_cons.mpr ⟨lw_p78, List.forall_mem_cons.mpr ⟨lw_p79, fun _ h => absurd h List.not_mem_nil⟩⟩⟩⟩⟩⟩⟩⟩⟩⟩⟩⟩⟩⟩⟩⟩
theorem lw_p80 : lw_okq (⟨"OboeDistrictModel", "offBy", "(III)I"⟩, 55) := ⟨⟨by decide +kernel, by decide +kernel⟩, List.mem_of_getElem? (i := 1282) (by decide +kernel), List.mem_of_getElem? (i := 1661) (by decide +kernel), List.mem_of_getElem? (i := 1662) (by decide +kernel)⟩
theorem lw_p81 : lw_okq (⟨"OboeDistrictModel", "offAll", "()I"⟩, 55) := ⟨⟨by decide +kernel, by decide +kernel⟩, List.mem_of_getElem? (i := 1282) (by decide +kernel), List.mem_of_getElem? (i := 1672) (by decide +kernel), List.mem_of_getElem? (i := 1673) (by decide +kernel)⟩
theorem lw_p82 : lw_okq (⟨"OboeDistrictModel", "whyGive", "(II)I"⟩, 55) := ⟨⟨by decide +kernel, by decide +kernel⟩, List.mem_of_getElem? (i := 1282) (by decide +kernel), List.mem_of_getElem? (i := 1680) (by decide +kernel), List.mem_of_getElem? (i := 1681) (by decide +kernel)⟩
theorem lw_p83 : lw_okq (⟨"OboeDistrictModel", "keep", "()V"⟩, 55) := ⟨⟨by decide +kernel, by decide +kernel⟩, List.mem_of_getElem? (i := 1282) (by decide +kernel), List.mem_of_getElem? (i := 1684) (by decide +kernel), List.mem_of_getElem? (i := 1685) (by decide +kernel)⟩
theorem lw_p84 : lw_okq (⟨"OboeDistrictModel", "whyTake", "(II)I"⟩, 55) := ⟨⟨by decide +kernel, by decide +kernel⟩, List.mem_of_getElem? (i := 1282) (by decide +kernel), List.mem_of_getElem? (i := 1692) (by decide +kernel), List.mem_of_getElem? (i := 1693) (by decide +kernel)⟩
theorem lw_p85 : lw_okq (⟨"OboeDistrictModel", "isStreet", "(I)Z"⟩, 55) := ⟨⟨by decide +kernel, by decide +kernel⟩, List.mem_of_getElem? (i := 1282) (by decide +kernel), List.mem_of_getElem? (i := 1700) (by decide +kernel), List.mem_of_getElem? (i := 1701) (by decide +kernel)⟩
theorem lw_p86 : lw_okq (⟨"OboeDistrictModel", "whyMove", "(II)I"⟩, 55) := ⟨⟨by decide +kernel, by decide +kernel⟩, List.mem_of_getElem? (i := 1282) (by decide +kernel), List.mem_of_getElem? (i := 1704) (by decide +kernel), List.mem_of_getElem? (i := 1705) (by decide +kernel)⟩
theorem lw_p87 : lw_okq (⟨"OboeDistrictModel", "comesOrGoes", "(IZ)I"⟩, 55) := ⟨⟨by decide +kernel, by decide +kernel⟩, List.mem_of_getElem? (i := 1282) (by decide +kernel), List.mem_of_getElem? (i := 1712) (by decide +kernel), List.mem_of_getElem? (i := 1713) (by decide +kernel)⟩
theorem lw_p88 : lw_okq (⟨"OboeDistrictModel", "goesOn", "(I)I"⟩, 55) := ⟨⟨by decide +kernel, by decide +kernel⟩, List.mem_of_getElem? (i := 1282) (by decide +kernel), List.mem_of_getElem? (i := 1724) (by decide +kernel), List.mem_of_getElem? (i := 1725) (by decide +kernel)⟩
theorem lw_p89 : lw_okq (⟨"OboeDistrictModel", "year", "()V"⟩, 55) := ⟨⟨by decide +kernel, by decide +kernel⟩, List.mem_of_getElem? (i := 1282) (by decide +kernel), List.mem_of_getElem? (i := 1728) (by decide +kernel), List.mem_of_getElem? (i := 1729) (by decide +kernel)⟩
theorem lw_p90 : lw_okq (⟨"OboeDistrictModel", "changesOf", "(I)Z"⟩, 55) := ⟨⟨by decide +kernel, by decide +kernel⟩, List.mem_of_getElem? (i := 1282) (by decide +kernel), List.mem_of_getElem? (i := 1732) (by decide +kernel), List.mem_of_getElem? (i := 1733) (by decide +kernel)⟩
theorem lw_p91 : lw_okq (⟨"OboeDistrictModel", "leastSet", "(I)I"⟩, 55) := ⟨⟨by decide +kernel, by decide +kernel⟩, List.mem_of_getElem? (i := 1282) (by decide +kernel), List.mem_of_getElem? (i := 1744) (by decide +kernel), List.mem_of_getElem? (i := 1745) (by decide +kernel)⟩
theorem lw_p92 : lw_okq (⟨"OboeDistrictModel", "here", "()I"⟩, 55) := ⟨⟨by decide +kernel, by decide +kernel⟩, List.mem_of_getElem? (i := 1282) (by decide +kernel), List.mem_of_getElem? (i := 1748) (by decide +kernel), List.mem_of_getElem? (i := 1749) (by decide +kernel)⟩
theorem lw_p93 : lw_okq (⟨"OboeDistrictModel", "burdensOf", "(II)I"⟩, 55) := ⟨⟨by decide +kernel, by decide +kernel⟩, List.mem_of_getElem? (i := 1282) (by decide +kernel), List.mem_of_getElem? (i := 1752) (by decide +kernel), List.mem_of_getElem? (i := 1753) (by decide +kernel)⟩
theorem lw_p94 : lw_okq (⟨"OboeDistrictModel", "laysFamilies", "(I)V"⟩, 55) := ⟨⟨by decide +kernel, by decide +kernel⟩, List.mem_of_getElem? (i := 1282) (by decide +kernel), List.mem_of_getElem? (i := 1768) (by decide +kernel), List.mem_of_getElem? (i := 1769) (by decide +kernel)⟩
theorem lw_p95 : lw_okq (⟨"OboeDistrictModel", "offAt", "(II)I"⟩, 55) := ⟨⟨by decide +kernel, by decide +kernel⟩, List.mem_of_getElem? (i := 1282) (by decide +kernel), List.mem_of_getElem? (i := 1788) (by decide +kernel), List.mem_of_getElem? (i := 1789) (by decide +kernel)⟩
def lw_privs_6 : List (MethodName × Nat) := [(⟨"OboeDistrictModel", "offBy", "(III)I"⟩, 55), (⟨"OboeDistrictModel", "offAll", "()I"⟩, 55), (⟨"OboeDistrictModel", "whyGive", "(II)I"⟩, 55), (⟨"OboeDistrictModel", "keep", "()V"⟩, 55), (⟨"OboeDistrictModel", "whyTake", "(II)I"⟩, 55), (⟨"OboeDistrictModel", "isStreet", "(I)Z"⟩, 55), (⟨"OboeDistrictModel", "whyMove", "(II)I"⟩, 55), (⟨"OboeDistrictModel", "comesOrGoes", "(IZ)I"⟩, 55), (⟨"OboeDistrictModel", "goesOn", "(I)I"⟩, 55), (⟨"OboeDistrictModel", "year", "()V"⟩, 55), (⟨"OboeDistrictModel", "changesOf", "(I)Z"⟩, 55), (⟨"OboeDistrictModel", "leastSet", "(I)I"⟩, 55), (⟨"OboeDistrictModel", "here", "()I"⟩, 55), (⟨"OboeDistrictModel", "burdensOf", "(II)I"⟩, 55), (⟨"OboeDistrictModel", "laysFamilies", "(I)V"⟩, 55), (⟨"OboeDistrictModel", "offAt", "(II)I"⟩, 55)]
theorem lw_r6 : ∀ q ∈ lw_privs_6, lw_okq q := List.forall_mem_cons.mpr ⟨lw_p80, List.forall_mem_cons.mpr ⟨lw_p81, List.forall_mem_cons.mpr ⟨lw_p82, List.forall_mem_cons.mpr ⟨lw_p83, List.forall_mem_cons.mpr ⟨lw_p84, List.forall_mem_cons.mpr ⟨lw_p85, List.forall_mem_cons.mpr ⟨lw_p86, List.forall_mem_cons.mpr ⟨lw_p87, List.forall_mem_cons.mpr ⟨lw_p88, List.forall_mem_cons.mpr ⟨lw_p89, List.forall_mem_cons.mpr ⟨lw_p90, List.forall_mem_cons.mpr ⟨lw_p91, List.forall_mem_cons.mpr ⟨lw_p92, List.forall_mem_cons.mpr ⟨lw_p93, List.forall_mem_cons.mpr ⟨lw_p94, List.forall_mem_cons.mpr ⟨lw_p95, fun _ h => absurd h List.not_mem_nil⟩⟩⟩⟩⟩⟩⟩⟩⟩⟩⟩⟩⟩⟩⟩⟩
theorem lw_p96 : lw_okq (⟨"OboeDistrictModel", "gathers", "([II)I"⟩, 55) := ⟨⟨by decide +kernel, by decide +kernel⟩, List.mem_of_getElem? (i := 1282) (by decide +kernel), List.mem_of_getElem? (i := 1796) (by decide +kernel), List.mem_of_getElem? (i := 1797) (by decide +kernel)⟩
theorem lw_p97 : lw_okq (⟨"OboeDistrictModel", "octet", "(I)I"⟩, 55) := ⟨⟨by decide +kernel, by decide +kernel⟩, List.mem_of_getElem? (i := 1282) (by decide +kernel), List.mem_of_getElem? (i := 1809) (by decide +kernel), List.mem_of_getElem? (i := 1810) (by decide +kernel)⟩
theorem lw_p98 : lw_okq (⟨"OboeDistrictModel", "isCounted", "(I)Z"⟩, 55) := ⟨⟨by decide +kernel, by decide +kernel⟩, List.mem_of_getElem? (i := 1282) (by decide +kernel), List.mem_of_getElem? (i := 1813) (by decide +kernel), List.mem_of_getElem? (i := 1814) (by decide +kernel)⟩
theorem lw_p99 : lw_okq (⟨"OboeDistrictModel", "leftBy", "(II)I"⟩, 55) := ⟨⟨by decide +kernel, by decide +kernel⟩, List.mem_of_getElem? (i := 1282) (by decide +kernel), List.mem_of_getElem? (i := 1817) (by decide +kernel), List.mem_of_getElem? (i := 1818) (by decide +kernel)⟩
theorem lw_p100 : lw_okq (⟨"OboeDistrictModel", "isTram", "(I)Z"⟩, 55) := ⟨⟨by decide +kernel, by decide +kernel⟩, List.mem_of_getElem? (i := 1282) (by decide +kernel), List.mem_of_getElem? (i := 1833) (by decide +kernel), List.mem_of_getElem? (i := 1834) (by decide +kernel)⟩
theorem lw_p101 : lw_okq (⟨"OboeDistrictModel", "tries", "()V"⟩, 55) := ⟨⟨by decide +kernel, by decide +kernel⟩, List.mem_of_getElem? (i := 1282) (by decide +kernel), List.mem_of_getElem? (i := 1841) (by decide +kernel), List.mem_of_getElem? (i := 1842) (by decide +kernel)⟩
theorem lw_p102 : lw_okq (⟨"OboeDistrictModel", "back", "()V"⟩, 55) := ⟨⟨by decide +kernel, by decide +kernel⟩, List.mem_of_getElem? (i := 1282) (by decide +kernel), List.mem_of_getElem? (i := 1845) (by decide +kernel), List.mem_of_getElem? (i := 1846) (by decide +kernel)⟩
theorem lw_p103 : lw_okq (⟨"OboeDistrictModel", "spells", "(J)V"⟩, 55) := ⟨⟨by decide +kernel, by decide +kernel⟩, List.mem_of_getElem? (i := 1282) (by decide +kernel), List.mem_of_getElem? (i := 1853) (by decide +kernel), List.mem_of_getElem? (i := 1854) (by decide +kernel)⟩
theorem lw_p104 : lw_okq (⟨"OboeDistrictModel", "lays", "(I)V"⟩, 55) := ⟨⟨by decide +kernel, by decide +kernel⟩, List.mem_of_getElem? (i := 1282) (by decide +kernel), List.mem_of_getElem? (i := 1858) (by decide +kernel), List.mem_of_getElem? (i := 1859) (by decide +kernel)⟩
theorem lw_p105 : lw_okq (⟨"OboeDistrictModel", "says", "(J)V"⟩, 55) := ⟨⟨by decide +kernel, by decide +kernel⟩, List.mem_of_getElem? (i := 1282) (by decide +kernel), List.mem_of_getElem? (i := 1863) (by decide +kernel), List.mem_of_getElem? (i := 1864) (by decide +kernel)⟩
theorem lw_p106 : lw_okq (⟨"OboeDistrictModel", "draws", "(II)I"⟩, 55) := ⟨⟨by decide +kernel, by decide +kernel⟩, List.mem_of_getElem? (i := 1282) (by decide +kernel), List.mem_of_getElem? (i := 1876) (by decide +kernel), List.mem_of_getElem? (i := 1877) (by decide +kernel)⟩
theorem lw_p107 : lw_okq (⟨"OboeDistrictModel", "drawPerson", "()V"⟩, 55) := ⟨⟨by decide +kernel, by decide +kernel⟩, List.mem_of_getElem? (i := 1282) (by decide +kernel), List.mem_of_getElem? (i := 1880) (by decide +kernel), List.mem_of_getElem? (i := 1881) (by decide +kernel)⟩
theorem lw_p108 : lw_okq (⟨"OboeDistrictModel", "draw", "(I)I"⟩, 55) := ⟨⟨by decide +kernel, by decide +kernel⟩, List.mem_of_getElem? (i := 1282) (by decide +kernel), List.mem_of_getElem? (i := 1884) (by decide +kernel), List.mem_of_getElem? (i := 1885) (by decide +kernel)⟩
theorem lw_p109 : lw_okq (⟨"OboeDistrictModel", "bookLine", "()Z"⟩, 55) := ⟨⟨by decide +kernel, by decide +kernel⟩, List.mem_of_getElem? (i := 1282) (by decide +kernel), List.mem_of_getElem? (i := 1897) (by decide +kernel), List.mem_of_getElem? (i := 1898) (by decide +kernel)⟩
theorem lw_p110 : lw_okq (⟨"OboeDistrictModel", "does", "(III)I"⟩, 55) := ⟨⟨by decide +kernel, by decide +kernel⟩, List.mem_of_getElem? (i := 1282) (by decide +kernel), List.mem_of_getElem? (i := 1901) (by decide +kernel), List.mem_of_getElem? (i := 1902) (by decide +kernel)⟩
theorem lw_p111 : lw_okq (⟨"OboeDistrictModel", "nots", "()V"⟩, 55) := ⟨⟨by decide +kernel, by decide +kernel⟩, List.mem_of_getElem? (i := 1282) (by decide +kernel), List.mem_of_getElem? (i := 1913) (by decide +kernel), List.mem_of_getElem? (i := 1914) (by decide +kernel)⟩
def lw_privs_7 : List (MethodName × Nat) := [(⟨"OboeDistrictModel", "gathers", "([II)I"⟩, 55), (⟨"OboeDistrictModel", "octet", "(I)I"⟩, 55), (⟨"OboeDistrictModel", "isCounted", "(I)Z"⟩, 55), (⟨"OboeDistrictModel", "leftBy", "(II)I"⟩, 55), (⟨"OboeDistrictModel", "isTram", "(I)Z"⟩, 55), (⟨"OboeDistrictModel", "tries", "()V"⟩, 55), (⟨"OboeDistrictModel", "back", "()V"⟩, 55), (⟨"OboeDistrictModel", "spells", "(J)V"⟩, 55), (⟨"OboeDistrictModel", "lays", "(I)V"⟩, 55), (⟨"OboeDistrictModel", "says", "(J)V"⟩, 55), (⟨"OboeDistrictModel", "draws", "(II)I"⟩, 55), (⟨"OboeDistrictModel", "drawPerson", "()V"⟩, 55), (⟨"OboeDistrictModel", "draw", "(I)I"⟩, 55), (⟨"OboeDistrictModel", "bookLine", "()Z"⟩, 55), (⟨"OboeDistrictModel", "does", "(III)I"⟩, 55), (⟨"OboeDistrictModel", "nots", "()V"⟩, 55)]
theorem lw_r7 : ∀ q ∈ lw_privs_7, lw_okq q := List.forall_mem_cons.mpr ⟨lw_p96, List.forall_mem_cons.mpr ⟨lw_p97, List.forall_mem_cons.mpr ⟨lw_p98, List.forall_mem_cons.mpr ⟨lw_p99, List.forall_mem_cons.mpr ⟨lw_p100, List.forall_mem_cons.mpr ⟨lw_p101, List.forall_mem_cons.mpr ⟨lw_p102, List.forall_mem_cons.mpr ⟨lw_p103, List.forall_mem_cons.mpr ⟨lw_p104, List.forall_mem_cons.mpr ⟨lw_p105, List.forall_mem_cons.mpr ⟨lw_p106, List.forall_mem_cons.mpr ⟨lw_p107, List.forall_mem_cons.mpr ⟨lw_p108, List.forall_mem_cons.mpr ⟨lw_p109, List.forall_mem_cons.mpr ⟨lw_p110, List.forall_mem_cons.mpr ⟨lw_p111, fun _ h => absurd h List.not_mem_nil⟩⟩⟩⟩⟩⟩⟩⟩⟩⟩⟩⟩⟩⟩⟩⟩
theorem lw_p112 : lw_okq (⟨"OboeDistrictModel", "code", "(III)V"⟩, 55) := ⟨⟨by decide +kernel, by decide +kernel⟩, List.mem_of_getElem? (i := 1282) (by decide +kernel), List.mem_of_getElem? (i := 1917) (by decide +kernel), List.mem_of_getElem? (i := 1918) (by decide +kernel)⟩
theorem lw_p113 : lw_okq (⟨"OboeDistrictModel", "joins", "(I)V"⟩, 55) := ⟨⟨by decide +kernel, by decide +kernel⟩, List.mem_of_getElem? (i := 1282) (by decide +kernel), List.mem_of_getElem? (i := 1921) (by decide +kernel), List.mem_of_getElem? (i := 1922) (by decide +kernel)⟩
theorem lw_p114 : lw_okq (⟨"OboeDistrictModel", "behind", "()Z"⟩, 55) := ⟨⟨by decide +kernel, by decide +kernel⟩, List.mem_of_getElem? (i := 1282) (by decide +kernel), List.mem_of_getElem? (i := 1925) (by decide +kernel), List.mem_of_getElem? (i := 1926) (by decide +kernel)⟩
theorem lw_p115 : lw_okq (⟨"OboeDistrictModel", "operand", "()Z"⟩, 55) := ⟨⟨by decide +kernel, by decide +kernel⟩, List.mem_of_getElem? (i := 1282) (by decide +kernel), List.mem_of_getElem? (i := 1929) (by decide +kernel), List.mem_of_getElem? (i := 1930) (by decide +kernel)⟩
theorem lw_p116 : lw_okq (⟨"OboeDistrictModel", "leafOf", "()I"⟩, 55) := ⟨⟨by decide +kernel, by decide +kernel⟩, List.mem_of_getElem? (i := 1282) (by decide +kernel), List.mem_of_getElem? (i := 1933) (by decide +kernel), List.mem_of_getElem? (i := 1934) (by decide +kernel)⟩
theorem lw_p117 : lw_okq (⟨"OboeDistrictModel", "isSaid", "(I)Z"⟩, 55) := ⟨⟨by decide +kernel, by decide +kernel⟩, List.mem_of_getElem? (i := 1282) (by decide +kernel), List.mem_of_getElem? (i := 1941) (by decide +kernel), List.mem_of_getElem? (i := 1942) (by decide +kernel)⟩
theorem lw_p118 : lw_okq (⟨"OboeDistrictModel", "isLeaf", "(IIII)Z"⟩, 55) := ⟨⟨by decide +kernel, by decide +kernel⟩, List.mem_of_getElem? (i := 1282) (by decide +kernel), List.mem_of_getElem? (i := 1945) (by decide +kernel), List.mem_of_getElem? (i := 1946) (by decide +kernel)⟩
def lw_privs_8 : List (MethodName × Nat) := [(⟨"OboeDistrictModel", "code", "(III)V"⟩, 55), (⟨"OboeDistrictModel", "joins", "(I)V"⟩, 55), (⟨"OboeDistrictModel", "behind", "()Z"⟩, 55), (⟨"OboeDistrictModel", "operand", "()Z"⟩, 55), (⟨"OboeDistrictModel", "leafOf", "()I"⟩, 55), (⟨"OboeDistrictModel", "isSaid", "(I)Z"⟩, 55), (⟨"OboeDistrictModel", "isLeaf", "(IIII)Z"⟩, 55)]
theorem lw_r8 : ∀ q ∈ lw_privs_8, lw_okq q := List.forall_mem_cons.mpr ⟨lw_p112, List.forall_mem_cons.mpr ⟨lw_p113, List.forall_mem_cons.mpr ⟨lw_p114, List.forall_mem_cons.mpr ⟨lw_p115, List.forall_mem_cons.mpr ⟨lw_p116, List.forall_mem_cons.mpr ⟨lw_p117, List.forall_mem_cons.mpr ⟨lw_p118, fun _ h => absurd h List.not_mem_nil⟩⟩⟩⟩⟩⟩⟩
def lw_privs : List (MethodName × Nat) := lw_privs_1 ++ (lw_privs_2 ++ (lw_privs_3 ++ (lw_privs_4 ++ (lw_privs_5 ++ (lw_privs_6 ++ (lw_privs_7 ++ (lw_privs_8)))))))
def lw_tbl : List Cond := k2_sels lw_privs ++ tables_1
theorem lw_privs_ok : ∀ q ∈ lw_privs, lw_okq q := by
  show ∀ q ∈ lw_privs_1 ++ (lw_privs_2 ++ (lw_privs_3 ++ (lw_privs_4 ++ (lw_privs_5 ++ (lw_privs_6 ++ (lw_privs_7 ++ (lw_privs_8))))))), lw_okq q
  exact List.forall_mem_append.mpr ⟨lw_r1, List.forall_mem_append.mpr ⟨lw_r2, List.forall_mem_append.mpr ⟨lw_r3, List.forall_mem_append.mpr ⟨lw_r4, List.forall_mem_append.mpr ⟨lw_r5, List.forall_mem_append.mpr ⟨lw_r6, List.forall_mem_append.mpr ⟨lw_r7, lw_r8⟩⟩⟩⟩⟩⟩⟩
-- ===== end of PART A; then your names; then what follows =====
end
section
def RX0 : String := "OboeDistrict$Book"
def TX0 : u_T := fun k => match k with
  | 0 => ("OboeDistrict$Book", "verbs", "[I", true)
  | 1 => ("OboeDistrict$Book", "persons", "[I", true)
  | 2 => ("OboeDistrict$Book", "whats", "[I", true)
  | 3 => ("OboeDistrict$Book", "lineCount", "I", false)
  | 4 => ("OboeDistrict$Book", "isAnyTold", "Z", false)
  | 5 => ("OboeDistrict$Book", "whyWrong", "I", false)
  | 6 => ("OboeDistrict$Book", "rightLines", "I", false)
  | 7 => ("OboeDistrict$Book", "yearThen", "I", false)
  | _ => ("OboeDistrict$Book", "offThen", "I", false)
def tyX0 : Nat → FieldType := fun k => match k with
  | 0 => .array .int
  | 1 => .array .int
  | 2 => .array .int
  | 3 => .int
  | 4 => .boolean
  | 5 => .int
  | 6 => .int
  | 7 => .int
  | _ => .int
theorem nmX0 : ∀ a, a < 9 → ∀ b, b < 9 → a ≠ b → (TX0 a).2.1 ≠ (TX0 b).2.1 := by decide +kernel
theorem tyX0_ok : ∀ k, k < 9 → parseFieldDescriptor (TX0 k).2.2.1 = some (tyX0 k) := by decide +kernel
abbrev cX0_init : ByteArray := prog_2_method_1_code
def yX0_init : MethodName := ⟨RX0, "<init>", "()V"⟩
abbrev cX0_read : ByteArray := prog_2_method_2_code
def yX0_read : MethodName := ⟨RX0, "read", "(LOboeDistrict$Tape;LOboeDistrict$Town;)Z"⟩
abbrev cX0_liveOn : ByteArray := prog_2_method_6_code
def yX0_liveOn : MethodName := ⟨RX0, "liveOn", "(LOboeDistrict$Life;)I"⟩
abbrev cX0_tell : ByteArray := prog_2_method_8_code
def yX0_tell : MethodName := ⟨RX0, "tell", "(I)I"⟩
def RX1 : String := "OboeDistrict$DistrictReader"
def TX1 : u_T := fun k => match k with
  | 0 => ("OboeDistrict$DistrictReader", "tape", "LOboeDistrict$Tape;", true)
  | 1 => ("OboeDistrict$DistrictReader", "town", "LOboeDistrict$Town;", false)
  | _ => ("OboeDistrict$DistrictReader", "life", "LOboeDistrict$Life;", false)
def tyX1 : Nat → FieldType := fun k => match k with
  | 0 => .object "OboeDistrict$Tape"
  | 1 => .object "OboeDistrict$Town"
  | _ => .object "OboeDistrict$Life"
theorem nmX1 : ∀ a, a < 3 → ∀ b, b < 3 → a ≠ b → (TX1 a).2.1 ≠ (TX1 b).2.1 := by decide +kernel
theorem tyX1_ok : ∀ k, k < 3 → parseFieldDescriptor (TX1 k).2.2.1 = some (tyX1 k) := by decide +kernel
abbrev cX1_init : ByteArray := prog_3_method_1_code
def yX1_init : MethodName := ⟨RX1, "<init>", "(LOboeDistrict$Tape;)V"⟩
abbrev cX1_read : ByteArray := prog_3_method_2_code
def yX1_read : MethodName := ⟨RX1, "read", "(LOboeDistrict$Life;)I"⟩
def RX2 : String := "OboeDistrict$Life"
def TX2 : u_T := fun k => match k with
  | 0 => ("OboeDistrict$Life", "town", "LOboeDistrict$Town;", false)
  | 1 => ("OboeDistrict$Life", "away", "I", false)
  | 2 => ("OboeDistrict$Life", "year", "I", false)
  | 3 => ("OboeDistrict$Life", "wrongs", "I", false)
  | 4 => ("OboeDistrict$Life", "changesMade", "I", false)
  | 5 => ("OboeDistrict$Life", "drawState", "I", false)
  | 6 => ("OboeDistrict$Life", "street", "[I", true)
  | 7 => ("OboeDistrict$Life", "holders", "[I", true)
  | 8 => ("OboeDistrict$Life", "insiders", "[I", true)
  | 9 => ("OboeDistrict$Life", "setsOf", "[I", true)
  | _ => ("OboeDistrict$Life", "dues", "[I", true)
def tyX2 : Nat → FieldType := fun k => match k with
  | 0 => .object "OboeDistrict$Town"
  | 1 => .int
  | 2 => .int
  | 3 => .int
  | 4 => .int
  | 5 => .int
  | 6 => .array .int
  | 7 => .array .int
  | 8 => .array .int
  | 9 => .array .int
  | _ => .array .int
theorem nmX2 : ∀ a, a < 11 → ∀ b, b < 11 → a ≠ b → (TX2 a).2.1 ≠ (TX2 b).2.1 := by decide +kernel
theorem tyX2_ok : ∀ k, k < 11 → parseFieldDescriptor (TX2 k).2.2.1 = some (tyX2 k) := by decide +kernel
abbrev cX2_init : ByteArray := prog_4_method_1_code
def yX2_init : MethodName := ⟨RX2, "<init>", "(LOboeDistrict$Town;)V"⟩
abbrev cX2_beginIn : ByteArray := prog_4_method_2_code
def yX2_beginIn : MethodName := ⟨RX2, "beginIn", "(LOboeDistrict$Town;)V"⟩
abbrev cX2_copyFrom : ByteArray := prog_4_method_3_code
def yX2_copyFrom : MethodName := ⟨RX2, "copyFrom", "(LOboeDistrict$Life;)V"⟩
abbrev cX2_gatherSets : ByteArray := prog_4_method_4_code
def yX2_gatherSets : MethodName := ⟨RX2, "gatherSets", "()V"⟩
abbrev cX2_gatherSetsOfEach : ByteArray := prog_4_method_5_code
def yX2_gatherSetsOfEach : MethodName := ⟨RX2, "gatherSetsOfEach", "()V"⟩
abbrev cX2_gatherDues : ByteArray := prog_4_method_6_code
def yX2_gatherDues : MethodName := ⟨RX2, "gatherDues", "()V"⟩
abbrev cX2_burdensOfAll : ByteArray := prog_4_method_10_code
def yX2_burdensOfAll : MethodName := ⟨RX2, "burdensOfAll", "()I"⟩
abbrev cX2_offOfAll : ByteArray := prog_4_method_14_code
def yX2_offOfAll : MethodName := ⟨RX2, "offOfAll", "()I"⟩
abbrev cX2_goYears : ByteArray := prog_4_method_17_code
def yX2_goYears : MethodName := ⟨RX2, "goYears", "(I)I"⟩
abbrev cX2_goYear : ByteArray := prog_4_method_22_code
def yX2_goYear : MethodName := ⟨RX2, "goYear", "()I"⟩
def RX3 : String := "OboeDistrict$Past"
def TX3 : u_T := fun k => match k with
  | 0 => ("OboeDistrict$Past", "lives", "[LOboeDistrict$Life;", true)
  | _ => ("OboeDistrict$Past", "kept", "I", false)
def tyX3 : Nat → FieldType := fun k => match k with
  | 0 => .array (.object "OboeDistrict$Life")
  | _ => .int
theorem nmX3 : ∀ a, a < 2 → ∀ b, b < 2 → a ≠ b → (TX3 a).2.1 ≠ (TX3 b).2.1 := by decide +kernel
theorem tyX3_ok : ∀ k, k < 2 → parseFieldDescriptor (TX3 k).2.2.1 = some (tyX3 k) := by decide +kernel
abbrev cX3_init : ByteArray := prog_5_method_1_code
def yX3_init : MethodName := ⟨RX3, "<init>", "(LOboeDistrict$Town;)V"⟩
abbrev cX3_forget : ByteArray := prog_5_method_2_code
def yX3_forget : MethodName := ⟨RX3, "forget", "()V"⟩
abbrev cX3_keep : ByteArray := prog_5_method_3_code
def yX3_keep : MethodName := ⟨RX3, "keep", "(LOboeDistrict$Life;)V"⟩
abbrev cX3_takeBack : ByteArray := prog_5_method_5_code
def yX3_takeBack : MethodName := ⟨RX3, "takeBack", "(LOboeDistrict$Life;)I"⟩
def RX4 : String := "OboeDistrict$Plate"
def TX4 : u_T := fun k => match k with
  | 0 => ("OboeDistrict$Plate", "bytes", "[I", true)
  | _ => ("OboeDistrict$Plate", "length", "I", false)
def tyX4 : Nat → FieldType := fun k => match k with
  | 0 => .array .int
  | _ => .int
theorem nmX4 : ∀ a, a < 2 → ∀ b, b < 2 → a ≠ b → (TX4 a).2.1 ≠ (TX4 b).2.1 := by decide +kernel
theorem tyX4_ok : ∀ k, k < 2 → parseFieldDescriptor (TX4 k).2.2.1 = some (tyX4 k) := by decide +kernel
abbrev cX4_init : ByteArray := prog_6_method_1_code
def yX4_init : MethodName := ⟨RX4, "<init>", "()V"⟩
def RX5 : String := "OboeDistrict$Search"
def TX5 : u_T := fun k => match k with
  | 0 => ("OboeDistrict$Search", "leastWho", "I", false)
  | 1 => ("OboeDistrict$Search", "leastBurdens", "I", false)
  | 2 => ("OboeDistrict$Search", "familySets", "I", false)
  | 3 => ("OboeDistrict$Search", "changedWho", "I", false)
  | 4 => ("OboeDistrict$Search", "offs", "[I", true)
  | 5 => ("OboeDistrict$Search", "shared", "[I", true)
  | 6 => ("OboeDistrict$Search", "possible", "[I", true)
  | 7 => ("OboeDistrict$Search", "burdenRow", "[I", true)
  | 8 => ("OboeDistrict$Search", "foundWho", "I", false)
  | _ => ("OboeDistrict$Search", "foundBurdens", "I", false)
def tyX5 : Nat → FieldType := fun k => match k with
  | 0 => .int
  | 1 => .int
  | 2 => .int
  | 3 => .int
  | 4 => .array .int
  | 5 => .array .int
  | 6 => .array .int
  | 7 => .array .int
  | 8 => .int
  | _ => .int
theorem nmX5 : ∀ a, a < 10 → ∀ b, b < 10 → a ≠ b → (TX5 a).2.1 ≠ (TX5 b).2.1 := by decide +kernel
theorem tyX5_ok : ∀ k, k < 10 → parseFieldDescriptor (TX5 k).2.2.1 = some (tyX5 k) := by decide +kernel
abbrev cX5_init : ByteArray := prog_7_method_1_code
def yX5_init : MethodName := ⟨RX5, "<init>", "()V"⟩
def RX6 : String := "OboeDistrict$Sentence"
def TX6 : u_T := fun k => match k with
  | 0 => ("OboeDistrict$Sentence", "ops", "[I", true)
  | 1 => ("OboeDistrict$Sentence", "signs", "[I", true)
  | 2 => ("OboeDistrict$Sentence", "numbers", "[I", true)
  | 3 => ("OboeDistrict$Sentence", "stack", "[I", true)
  | _ => ("OboeDistrict$Sentence", "steps", "I", false)
def tyX6 : Nat → FieldType := fun k => match k with
  | 0 => .array .int
  | 1 => .array .int
  | 2 => .array .int
  | 3 => .array .int
  | _ => .int
theorem nmX6 : ∀ a, a < 5 → ∀ b, b < 5 → a ≠ b → (TX6 a).2.1 ≠ (TX6 b).2.1 := by decide +kernel
theorem tyX6_ok : ∀ k, k < 5 → parseFieldDescriptor (TX6 k).2.2.1 = some (tyX6 k) := by decide +kernel
abbrev cX6_init : ByteArray := prog_8_method_1_code
def yX6_init : MethodName := ⟨RX6, "<init>", "()V"⟩
def RX7 : String := "OboeDistrict$SentenceReader"
def TX7 : u_T := fun k => match k with
  | 0 => ("OboeDistrict$SentenceReader", "tape", "LOboeDistrict$Tape;", true)
  | 1 => ("OboeDistrict$SentenceReader", "town", "LOboeDistrict$Town;", false)
  | 2 => ("OboeDistrict$SentenceReader", "sentence", "LOboeDistrict$Sentence;", false)
  | _ => ("OboeDistrict$SentenceReader", "ones", "I", false)
def tyX7 : Nat → FieldType := fun k => match k with
  | 0 => .object "OboeDistrict$Tape"
  | 1 => .object "OboeDistrict$Town"
  | 2 => .object "OboeDistrict$Sentence"
  | _ => .int
theorem nmX7 : ∀ a, a < 4 → ∀ b, b < 4 → a ≠ b → (TX7 a).2.1 ≠ (TX7 b).2.1 := by decide +kernel
theorem tyX7_ok : ∀ k, k < 4 → parseFieldDescriptor (TX7 k).2.2.1 = some (tyX7 k) := by decide +kernel
abbrev cX7_init : ByteArray := prog_9_method_1_code
def yX7_init : MethodName := ⟨RX7, "<init>", "(LOboeDistrict$Tape;)V"⟩
abbrev cX7_read : ByteArray := prog_9_method_2_code
def yX7_read : MethodName := ⟨RX7, "read", "(LOboeDistrict$Sentence;LOboeDistrict$Town;)I"⟩
abbrev cX7_readCond : ByteArray := prog_9_method_3_code
def yX7_readCond : MethodName := ⟨RX7, "readCond", "(I)Z"⟩
abbrev cX7_readAll : ByteArray := prog_9_method_4_code
def yX7_readAll : MethodName := ⟨RX7, "readAll", "(I)Z"⟩
abbrev cX7_readOne : ByteArray := prog_9_method_5_code
def yX7_readOne : MethodName := ⟨RX7, "readOne", "(I)Z"⟩
def RX8 : String := "OboeDistrict$Tally"
def TX8 : u_T := fun k => match k with
  | 0 => ("OboeDistrict$Tally", "inEach", "I", false)
  | 1 => ("OboeDistrict$Tally", "nextSet", "I", false)
  | 2 => ("OboeDistrict$Tally", "groups", "[I", true)
  | 3 => ("OboeDistrict$Tally", "ofSize", "[I", true)
  | _ => ("OboeDistrict$Tally", "left", "I", false)
def tyX8 : Nat → FieldType := fun k => match k with
  | 0 => .int
  | 1 => .int
  | 2 => .array .int
  | 3 => .array .int
  | _ => .int
theorem nmX8 : ∀ a, a < 5 → ∀ b, b < 5 → a ≠ b → (TX8 a).2.1 ≠ (TX8 b).2.1 := by decide +kernel
theorem tyX8_ok : ∀ k, k < 5 → parseFieldDescriptor (TX8 k).2.2.1 = some (tyX8 k) := by decide +kernel
abbrev cX8_init : ByteArray := prog_10_method_1_code
def yX8_init : MethodName := ⟨RX8, "<init>", "()V"⟩
abbrev cX8_countGroups : ByteArray := prog_10_method_2_code
def yX8_countGroups : MethodName := ⟨RX8, "countGroups", "(LOboeDistrict$Life;LOboeDistrict$Tape;)I"⟩
abbrev cX8_isAsTold : ByteArray := prog_10_method_3_code
def yX8_isAsTold : MethodName := ⟨RX8, "isAsTold", "(LOboeDistrict$Town;LOboeDistrict$Tape;)Z"⟩
def RX9 : String := "OboeDistrict$Tape"
def TX9 : u_T := fun k => match k with
  | 0 => ("OboeDistrict$Tape", "bytes", "[B", true)
  | 1 => ("OboeDistrict$Tape", "wordCodes", "[J", true)
  | 2 => ("OboeDistrict$Tape", "size", "I", false)
  | 3 => ("OboeDistrict$Tape", "kinds", "[B", true)
  | 4 => ("OboeDistrict$Tape", "starts", "[I", true)
  | 5 => ("OboeDistrict$Tape", "values", "[I", true)
  | 6 => ("OboeDistrict$Tape", "codes", "[J", true)
  | 7 => ("OboeDistrict$Tape", "tokens", "I", false)
  | 8 => ("OboeDistrict$Tape", "scanned", "I", false)
  | 9 => ("OboeDistrict$Tape", "at", "I", false)
  | 10 => ("OboeDistrict$Tape", "kind", "I", false)
  | 11 => ("OboeDistrict$Tape", "value", "I", false)
  | 12 => ("OboeDistrict$Tape", "code", "J", false)
  | 13 => ("OboeDistrict$Tape", "fault", "I", false)
  | _ => ("OboeDistrict$Tape", "faultPlace", "I", false)
def tyX9 : Nat → FieldType := fun k => match k with
  | 0 => .array .byte
  | 1 => .array .long
  | 2 => .int
  | 3 => .array .byte
  | 4 => .array .int
  | 5 => .array .int
  | 6 => .array .long
  | 7 => .int
  | 8 => .int
  | 9 => .int
  | 10 => .int
  | 11 => .int
  | 12 => .long
  | 13 => .int
  | _ => .int
theorem nmX9 : ∀ a, a < 15 → ∀ b, b < 15 → a ≠ b → (TX9 a).2.1 ≠ (TX9 b).2.1 := by decide +kernel
theorem tyX9_ok : ∀ k, k < 15 → parseFieldDescriptor (TX9 k).2.2.1 = some (tyX9 k) := by decide +kernel
abbrev cX9_init : ByteArray := prog_11_method_1_code
def yX9_init : MethodName := ⟨RX9, "<init>", "()V"⟩
abbrev cX9_putNumber : ByteArray := prog_11_method_2_code
def yX9_putNumber : MethodName := ⟨RX9, "putNumber", "(I)V"⟩
abbrev cX9_begin : ByteArray := prog_11_method_3_code
def yX9_begin : MethodName := ⟨RX9, "begin", "(I)V"⟩
abbrev cX9_scanToken : ByteArray := prog_11_method_4_code
def yX9_scanToken : MethodName := ⟨RX9, "scanToken", "(I)I"⟩
abbrev cX9_advance : ByteArray := prog_11_method_7_code
def yX9_advance : MethodName := ⟨RX9, "advance", "()V"⟩
abbrev cX9_fail : ByteArray := prog_11_method_8_code
def yX9_fail : MethodName := ⟨RX9, "fail", "(I)Z"⟩
abbrev cX9_isAtSign : ByteArray := prog_11_method_9_code
def yX9_isAtSign : MethodName := ⟨RX9, "isAtSign", "(C)Z"⟩
abbrev cX9_withLetter : ByteArray := prog_11_method_14_code
def yX9_withLetter : MethodName := ⟨RX9, "withLetter", "(JI)J"⟩
def RX10 : String := "OboeDistrict$Town"
def TX10 : u_T := fun k => match k with
  | 0 => ("OboeDistrict$Town", "counts", "[I", true)
  | 1 => ("OboeDistrict$Town", "names", "[J", true)
  | 2 => ("OboeDistrict$Town", "minds", "[I", true)
  | 3 => ("OboeDistrict$Town", "hates", "[I", true)
  | 4 => ("OboeDistrict$Town", "riders", "[I", true)
  | 5 => ("OboeDistrict$Town", "part", "[I", true)
  | 6 => ("OboeDistrict$Town", "whole", "[I", true)
  | _ => ("OboeDistrict$Town", "women", "I", false)
def tyX10 : Nat → FieldType := fun k => match k with
  | 0 => .array .int
  | 1 => .array .long
  | 2 => .array .int
  | 3 => .array .int
  | 4 => .array .int
  | 5 => .array .int
  | 6 => .array .int
  | _ => .int
theorem nmX10 : ∀ a, a < 8 → ∀ b, b < 8 → a ≠ b → (TX10 a).2.1 ≠ (TX10 b).2.1 := by decide +kernel
theorem tyX10_ok : ∀ k, k < 8 → parseFieldDescriptor (TX10 k).2.2.1 = some (tyX10 k) := by decide +kernel
abbrev cX10_init : ByteArray := prog_12_method_1_code
def yX10_init : MethodName := ⟨RX10, "<init>", "()V"⟩
abbrev cX10_setCount : ByteArray := prog_12_method_7_code
def yX10_setCount : MethodName := ⟨RX10, "setCount", "()I"⟩
abbrev cX10_everybody : ByteArray := prog_12_method_8_code
def yX10_everybody : MethodName := ⟨RX10, "everybody", "()I"⟩
def RX11 : String := "OboeDistrict"
def TX11 : u_T := fun k => match k with
  | 0 => ("OboeDistrict", "tape", "LOboeDistrict$Tape;", true)
  | 1 => ("OboeDistrict", "life", "LOboeDistrict$Life;", true)
  | 2 => ("OboeDistrict", "trial", "LOboeDistrict$Life;", true)
  | 3 => ("OboeDistrict", "past", "LOboeDistrict$Past;", true)
  | 4 => ("OboeDistrict", "images", "[LOboeDistrict$Life;", true)
  | 5 => ("OboeDistrict", "imaged", "[Z", true)
  | 6 => ("OboeDistrict", "imagedSentences", "[LOboeDistrict$Sentence;", true)
  | 7 => ("OboeDistrict", "districtReader", "LOboeDistrict$DistrictReader;", true)
  | 8 => ("OboeDistrict", "sentenceReader", "LOboeDistrict$SentenceReader;", true)
  | 9 => ("OboeDistrict", "latestBook", "LOboeDistrict$Book;", true)
  | 10 => ("OboeDistrict", "search", "LOboeDistrict$Search;", true)
  | 11 => ("OboeDistrict", "tally", "LOboeDistrict$Tally;", true)
  | 12 => ("OboeDistrict", "latestPlate", "LOboeDistrict$Plate;", true)
  | 13 => ("OboeDistrict", "nowSaid", "LOboeDistrict$Sentence;", false)
  | _ => ("OboeDistrict", "faultKind", "I", false)
def tyX11 : Nat → FieldType := fun k => match k with
  | 0 => .object "OboeDistrict$Tape"
  | 1 => .object "OboeDistrict$Life"
  | 2 => .object "OboeDistrict$Life"
  | 3 => .object "OboeDistrict$Past"
  | 4 => .array (.object "OboeDistrict$Life")
  | 5 => .array .boolean
  | 6 => .array (.object "OboeDistrict$Sentence")
  | 7 => .object "OboeDistrict$DistrictReader"
  | 8 => .object "OboeDistrict$SentenceReader"
  | 9 => .object "OboeDistrict$Book"
  | 10 => .object "OboeDistrict$Search"
  | 11 => .object "OboeDistrict$Tally"
  | 12 => .object "OboeDistrict$Plate"
  | 13 => .object "OboeDistrict$Sentence"
  | _ => .int
theorem nmX11 : ∀ a, a < 15 → ∀ b, b < 15 → a ≠ b → (TX11 a).2.1 ≠ (TX11 b).2.1 := by decide +kernel
theorem tyX11_ok : ∀ k, k < 15 → parseFieldDescriptor (TX11 k).2.2.1 = some (tyX11 k) := by decide +kernel
abbrev cX11_init : ByteArray := prog_1_method_1_code
def yX11_init : MethodName := ⟨RX11, "<init>", "()V"⟩
abbrev cX11_feed : ByteArray := prog_1_method_2_code
def yX11_feed : MethodName := ⟨RX11, "feed", "(IIIII)I"⟩
abbrev cX11_end : ByteArray := prog_1_method_3_code
def yX11_end : MethodName := ⟨RX11, "end", "(I)Z"⟩
abbrev cX11_district : ByteArray := prog_1_method_4_code
def yX11_district : MethodName := ⟨RX11, "district", "()I"⟩
abbrev cX11_fault : ByteArray := prog_1_method_5_code
def yX11_fault : MethodName := ⟨RX11, "fault", "()I"⟩
abbrev cX11_book : ByteArray := prog_1_method_6_code
def yX11_book : MethodName := ⟨RX11, "book", "(I)I"⟩
abbrev cX11_told : ByteArray := prog_1_method_7_code
def yX11_told : MethodName := ⟨RX11, "told", "(I)I"⟩
abbrev cX11_sentence : ByteArray := prog_1_method_8_code
def yX11_sentence : MethodName := ⟨RX11, "sentence", "()I"⟩
abbrev cX11_said : ByteArray := prog_1_method_9_code
def yX11_said : MethodName := ⟨RX11, "said", "(I)I"⟩
abbrev cX11_count : ByteArray := prog_1_method_10_code
def yX11_count : MethodName := ⟨RX11, "count", "(I)I"⟩
abbrev cX11_person : ByteArray := prog_1_method_11_code
def yX11_person : MethodName := ⟨RX11, "person", "(II)I"⟩
abbrev cX11_burden : ByteArray := prog_1_method_12_code
def yX11_burden : MethodName := ⟨RX11, "burden", "(II)I"⟩
abbrev cX11_members : ByteArray := prog_1_method_13_code
def yX11_members : MethodName := ⟨RX11, "members", "(I)I"⟩
abbrev cX11_due : ByteArray := prog_1_method_14_code
def yX11_due : MethodName := ⟨RX11, "due", "(II)I"⟩
abbrev cX11_have : ByteArray := prog_1_method_15_code
def yX11_have : MethodName := ⟨RX11, "have", "(II)I"⟩
abbrev cX11_rest : ByteArray := prog_1_method_16_code
def yX11_rest : MethodName := ⟨RX11, "rest", "(II)I"⟩
abbrev cX11_off : ByteArray := prog_1_method_17_code
def yX11_off : MethodName := ⟨RX11, "off", "(I)I"⟩
abbrev cX11_now : ByteArray := prog_1_method_18_code
def yX11_now : MethodName := ⟨RX11, "now", "(I)I"⟩
abbrev cX11_plate : ByteArray := prog_1_method_19_code
def yX11_plate : MethodName := ⟨RX11, "plate", "(I)I"⟩
abbrev cX11_byteAt : ByteArray := prog_1_method_20_code
def yX11_byteAt : MethodName := ⟨RX11, "byteAt", "(I)I"⟩
abbrev cX11_give : ByteArray := prog_1_method_21_code
def yX11_give : MethodName := ⟨RX11, "give", "(II)I"⟩
abbrev cX11_take : ByteArray := prog_1_method_22_code
def yX11_take : MethodName := ⟨RX11, "take", "(II)I"⟩
abbrev cX11_move : ByteArray := prog_1_method_23_code
def yX11_move : MethodName := ⟨RX11, "move", "(II)I"⟩
abbrev cX11_leave : ByteArray := prog_1_method_24_code
def yX11_leave : MethodName := ⟨RX11, "leave", "(I)I"⟩
abbrev cX11_come : ByteArray := prog_1_method_25_code
def yX11_come : MethodName := ⟨RX11, "come", "(I)I"⟩
abbrev cX11_years : ByteArray := prog_1_method_26_code
def yX11_years : MethodName := ⟨RX11, "years", "(I)I"⟩
abbrev cX11_drawn : ByteArray := prog_1_method_27_code
def yX11_drawn : MethodName := ⟨RX11, "drawn", "(II)I"⟩
abbrev cX11_undo : ByteArray := prog_1_method_28_code
def yX11_undo : MethodName := ⟨RX11, "undo", "()I"⟩
abbrev cX11_image : ByteArray := prog_1_method_29_code
def yX11_image : MethodName := ⟨RX11, "image", "(I)Z"⟩
abbrev cX11_restore : ByteArray := prog_1_method_30_code
def yX11_restore : MethodName := ⟨RX11, "restore", "(I)Z"⟩
abbrev cX11_least : ByteArray := prog_1_method_31_code
def yX11_least : MethodName := ⟨RX11, "least", "(I)I"⟩
abbrev cX11_who : ByteArray := prog_1_method_32_code
def yX11_who : MethodName := ⟨RX11, "who", "()I"⟩
abbrev cX11_burdens : ByteArray := prog_1_method_33_code
def yX11_burdens : MethodName := ⟨RX11, "burdens", "()I"⟩
abbrev cX11_family : ByteArray := prog_1_method_34_code
def yX11_family : MethodName := ⟨RX11, "family", "(I)I"⟩
abbrev cX11_familyOf : ByteArray := prog_1_method_35_code
def yX11_familyOf : MethodName := ⟨RX11, "familyOf", "()I"⟩
abbrev cX11_changes : ByteArray := prog_1_method_36_code
def yX11_changes : MethodName := ⟨RX11, "changes", "(I)I"⟩
abbrev cX11_changed : ByteArray := prog_1_method_37_code
def yX11_changed : MethodName := ⟨RX11, "changed", "()I"⟩
abbrev cX11_house : ByteArray := prog_1_method_38_code
def yX11_house : MethodName := ⟨RX11, "house", "(I)I"⟩
abbrev cX11_both : ByteArray := prog_1_method_39_code
def yX11_both : MethodName := ⟨RX11, "both", "(II)I"⟩
abbrev cX11_spared : ByteArray := prog_1_method_40_code
def yX11_spared : MethodName := ⟨RX11, "spared", "(III)I"⟩
abbrev cX11_counts : ByteArray := prog_1_method_41_code
def yX11_counts : MethodName := ⟨RX11, "counts", "()I"⟩
abbrev cX11_surely : ByteArray := prog_1_method_42_code
def yX11_surely : MethodName := ⟨RX11, "surely", "()I"⟩
abbrev cX11_look : ByteArray := prog_1_method_43_code
def yX11_look : MethodName := ⟨RX11, "look", "()I"⟩
abbrev cX11_cut : ByteArray := prog_1_method_44_code
def yX11_cut : MethodName := ⟨RX11, "cut", "(II)I"⟩
abbrev cX11_settles : ByteArray := prog_1_method_45_code
def yX11_settles : MethodName := ⟨RX11, "settles", "()I"⟩
abbrev cX11_odds : ByteArray := prog_1_method_46_code
def yX11_odds : MethodName := ⟨RX11, "odds", "(III)I"⟩
abbrev cX11_isPerson : ByteArray := prog_1_method_48_code
def yX11_isPerson : MethodName := ⟨RX11, "isPerson", "(I)Z"⟩
abbrev cX11_isMark : ByteArray := prog_1_method_49_code
def yX11_isMark : MethodName := ⟨RX11, "isMark", "(I)Z"⟩
abbrev cX11_isTram : ByteArray := prog_1_method_51_code
def yX11_isTram : MethodName := ⟨RX11, "isTram", "(I)Z"⟩
abbrev cX11_isSet : ByteArray := prog_1_method_52_code
def yX11_isSet : MethodName := ⟨RX11, "isSet", "(I)Z"⟩
abbrev cX11_isWithin : ByteArray := prog_1_method_54_code
def yX11_isWithin : MethodName := ⟨RX11, "isWithin", "(III)Z"⟩
def RX12 : String := "OboeDistrictModel"
def TX12 : u_T := fun k => match k with
  | 0 => ("OboeDistrictModel", "thrown", "I", false)
  | 1 => ("OboeDistrictModel", "tape", "[B", true)
  | 2 => ("OboeDistrictModel", "length", "I", false)
  | 3 => ("OboeDistrictModel", "size", "I", false)
  | 4 => ("OboeDistrictModel", "p", "I", false)
  | 5 => ("OboeDistrictModel", "limit", "I", false)
  | 6 => ("OboeDistrictModel", "s", "[I", true)
  | 7 => ("OboeDistrictModel", "h", "[I", true)
  | 8 => ("OboeDistrictModel", "read", "[I", true)
  | 9 => ("OboeDistrictModel", "names", "[J", true)
  | 10 => ("OboeDistrictModel", "reserved", "[J", true)
  | 11 => ("OboeDistrictModel", "token", "I", false)
  | 12 => ("OboeDistrictModel", "at", "I", false)
  | 13 => ("OboeDistrictModel", "span", "I", false)
  | 14 => ("OboeDistrictModel", "number", "I", false)
  | 15 => ("OboeDistrictModel", "fault", "I", false)
  | 16 => ("OboeDistrictModel", "faultAt", "I", false)
  | 17 => ("OboeDistrictModel", "word", "J", false)
  | 18 => ("OboeDistrictModel", "got", "I", false)
  | 19 => ("OboeDistrictModel", "lines", "I", false)
  | 20 => ("OboeDistrictModel", "sets", "[I", true)
  | 21 => ("OboeDistrictModel", "undone", "[I", true)
  | 22 => ("OboeDistrictModel", "before", "[I", true)
  | 23 => ("OboeDistrictModel", "undoMany", "I", false)
  | 24 => ("OboeDistrictModel", "whoSet", "I", false)
  | 25 => ("OboeDistrictModel", "whoBurdens", "I", false)
  | 26 => ("OboeDistrictModel", "hasWho", "Z", false)
  | 27 => ("OboeDistrictModel", "can", "[Z", true)
  | 28 => ("OboeDistrictModel", "familySet", "I", false)
  | 29 => ("OboeDistrictModel", "changedSet", "I", false)
  | 30 => ("OboeDistrictModel", "hasFamily", "Z", false)
  | 31 => ("OboeDistrictModel", "hasChanged", "Z", false)
  | 32 => ("OboeDistrictModel", "firstRow", "[I", true)
  | 33 => ("OboeDistrictModel", "secondRow", "[I", true)
  | 34 => ("OboeDistrictModel", "found", "[I", true)
  | 35 => ("OboeDistrictModel", "alike", "[I", true)
  | 36 => ("OboeDistrictModel", "surelySet", "I", false)
  | 37 => ("OboeDistrictModel", "lookSet", "I", false)
  | 38 => ("OboeDistrictModel", "hasCounts", "Z", false)
  | 39 => ("OboeDistrictModel", "text", "[B", true)
  | 40 => ("OboeDistrictModel", "textMany", "I", false)
  | 41 => ("OboeDistrictModel", "seed", "I", false)
  | 42 => ("OboeDistrictModel", "toldMany", "I", false)
  | 43 => ("OboeDistrictModel", "toldAt", "[I", true)
  | 44 => ("OboeDistrictModel", "hasTold", "Z", false)
  | 45 => ("OboeDistrictModel", "stack", "[I", true)
  | 46 => ("OboeDistrictModel", "codes", "I", false)
  | 47 => ("OboeDistrictModel", "ones", "I", false)
  | 48 => ("OboeDistrictModel", "top", "I", false)
  | 49 => ("OboeDistrictModel", "deep", "I", false)
  | 50 => ("OboeDistrictModel", "isWhole", "Z", false)
  | 51 => ("OboeDistrictModel", "truths", "[Z", true)
  | 52 => ("OboeDistrictModel", "kept", "[I", true)
  | 53 => ("OboeDistrictModel", "namesKept", "[J", true)
  | _ => ("OboeDistrictModel", "areKept", "[Z", true)
def tyX12 : Nat → FieldType := fun k => match k with
  | 0 => .int
  | 1 => .array .byte
  | 2 => .int
  | 3 => .int
  | 4 => .int
  | 5 => .int
  | 6 => .array .int
  | 7 => .array .int
  | 8 => .array .int
  | 9 => .array .long
  | 10 => .array .long
  | 11 => .int
  | 12 => .int
  | 13 => .int
  | 14 => .int
  | 15 => .int
  | 16 => .int
  | 17 => .long
  | 18 => .int
  | 19 => .int
  | 20 => .array .int
  | 21 => .array .int
  | 22 => .array .int
  | 23 => .int
  | 24 => .int
  | 25 => .int
  | 26 => .boolean
  | 27 => .array .boolean
  | 28 => .int
  | 29 => .int
  | 30 => .boolean
  | 31 => .boolean
  | 32 => .array .int
  | 33 => .array .int
  | 34 => .array .int
  | 35 => .array .int
  | 36 => .int
  | 37 => .int
  | 38 => .boolean
  | 39 => .array .byte
  | 40 => .int
  | 41 => .int
  | 42 => .int
  | 43 => .array .int
  | 44 => .boolean
  | 45 => .array .int
  | 46 => .int
  | 47 => .int
  | 48 => .int
  | 49 => .int
  | 50 => .boolean
  | 51 => .array .boolean
  | 52 => .array .int
  | 53 => .array .long
  | _ => .array .boolean
theorem nmX12 : ∀ a, a < 55 → ∀ b, b < 55 → a ≠ b → (TX12 a).2.1 ≠ (TX12 b).2.1 := by decide +kernel
theorem tyX12_ok : ∀ k, k < 55 → parseFieldDescriptor (TX12 k).2.2.1 = some (tyX12 k) := by decide +kernel
abbrev cX12_feed : ByteArray := prog_14_method_3_code
def yX12_feed : MethodName := ⟨RX12, "feed", "(IIIII)I"⟩
abbrev cX12_four : ByteArray := prog_14_method_4_code
def yX12_four : MethodName := ⟨RX12, "four", "(I)V"⟩
abbrev cX12_end : ByteArray := prog_14_method_5_code
def yX12_end : MethodName := ⟨RX12, "end", "(I)Z"⟩
abbrev cX12_taken : ByteArray := prog_14_method_6_code
def yX12_taken : MethodName := ⟨RX12, "taken", "(I)V"⟩
abbrev cX12_isIn : ByteArray := prog_14_method_7_code
def yX12_isIn : MethodName := ⟨RX12, "isIn", "(III)Z"⟩
abbrev cX12_init : ByteArray := prog_14_method_13_code
def yX12_init : MethodName := ⟨RX12, "<init>", "()V"⟩
abbrev cX12_peek : ByteArray := prog_14_method_14_code
def yX12_peek : MethodName := ⟨RX12, "peek", "()I"⟩
abbrev cX12_next : ByteArray := prog_14_method_17_code
def yX12_next : MethodName := ⟨RX12, "next", "()V"⟩
abbrev cX12_bad : ByteArray := prog_14_method_18_code
def yX12_bad : MethodName := ⟨RX12, "bad", "(I)Z"⟩
abbrev cX12_isWord : ByteArray := prog_14_method_19_code
def yX12_isWord : MethodName := ⟨RX12, "isWord", "(J)Z"⟩
abbrev cX12_isSign : ByteArray := prog_14_method_20_code
def yX12_isSign : MethodName := ⟨RX12, "isSign", "(I)Z"⟩
abbrev cX12_district : ByteArray := prog_14_method_34_code
def yX12_district : MethodName := ⟨RX12, "district", "()I"⟩
abbrev cX12_fault : ByteArray := prog_14_method_35_code
def yX12_fault : MethodName := ⟨RX12, "fault", "()I"⟩
abbrev cX12_isPerson : ByteArray := prog_14_method_36_code
def yX12_isPerson : MethodName := ⟨RX12, "isPerson", "(I)Z"⟩
abbrev cX12_isMark : ByteArray := prog_14_method_37_code
def yX12_isMark : MethodName := ⟨RX12, "isMark", "(I)Z"⟩
abbrev cX12_isTram : ByteArray := prog_14_method_39_code
def yX12_isTram : MethodName := ⟨RX12, "isTram", "(I)Z"⟩
abbrev cX12_setMany : ByteArray := prog_14_method_41_code
def yX12_setMany : MethodName := ⟨RX12, "setMany", "()I"⟩
abbrev cX12_isSet : ByteArray := prog_14_method_42_code
def yX12_isSet : MethodName := ⟨RX12, "isSet", "(I)Z"⟩
abbrev cX12_laysSets : ByteArray := prog_14_method_44_code
def yX12_laysSets : MethodName := ⟨RX12, "laysSets", "()V"⟩
abbrev cX12_burden : ByteArray := prog_14_method_52_code
def yX12_burden : MethodName := ⟨RX12, "burden", "(II)I"⟩
abbrev cX12_members : ByteArray := prog_14_method_53_code
def yX12_members : MethodName := ⟨RX12, "members", "(I)I"⟩
abbrev cX12_due : ByteArray := prog_14_method_54_code
def yX12_due : MethodName := ⟨RX12, "due", "(II)I"⟩
abbrev cX12_have : ByteArray := prog_14_method_55_code
def yX12_have : MethodName := ⟨RX12, "have", "(II)I"⟩
abbrev cX12_rest : ByteArray := prog_14_method_56_code
def yX12_rest : MethodName := ⟨RX12, "rest", "(II)I"⟩
abbrev cX12_off : ByteArray := prog_14_method_57_code
def yX12_off : MethodName := ⟨RX12, "off", "(I)I"⟩
abbrev cX12_offAll : ByteArray := prog_14_method_58_code
def yX12_offAll : MethodName := ⟨RX12, "offAll", "()I"⟩
abbrev cX12_now : ByteArray := prog_14_method_59_code
def yX12_now : MethodName := ⟨RX12, "now", "(I)I"⟩
abbrev cX12_year : ByteArray := prog_14_method_64_code
def yX12_year : MethodName := ⟨RX12, "year", "()V"⟩
abbrev cX12_goesOn : ByteArray := prog_14_method_65_code
def yX12_goesOn : MethodName := ⟨RX12, "goesOn", "(I)I"⟩
abbrev cX12_give : ByteArray := prog_14_method_66_code
def yX12_give : MethodName := ⟨RX12, "give", "(II)I"⟩
abbrev cX12_take : ByteArray := prog_14_method_67_code
def yX12_take : MethodName := ⟨RX12, "take", "(II)I"⟩
abbrev cX12_move : ByteArray := prog_14_method_68_code
def yX12_move : MethodName := ⟨RX12, "move", "(II)I"⟩
abbrev cX12_comesOrGoes : ByteArray := prog_14_method_69_code
def yX12_comesOrGoes : MethodName := ⟨RX12, "comesOrGoes", "(IZ)I"⟩
abbrev cX12_leave : ByteArray := prog_14_method_70_code
def yX12_leave : MethodName := ⟨RX12, "leave", "(I)I"⟩
abbrev cX12_come : ByteArray := prog_14_method_71_code
def yX12_come : MethodName := ⟨RX12, "come", "(I)I"⟩
abbrev cX12_years : ByteArray := prog_14_method_72_code
def yX12_years : MethodName := ⟨RX12, "years", "(I)I"⟩
abbrev cX12_keep : ByteArray := prog_14_method_73_code
def yX12_keep : MethodName := ⟨RX12, "keep", "()V"⟩
abbrev cX12_undo : ByteArray := prog_14_method_74_code
def yX12_undo : MethodName := ⟨RX12, "undo", "()I"⟩
abbrev cX12_tries : ByteArray := prog_14_method_75_code
def yX12_tries : MethodName := ⟨RX12, "tries", "()V"⟩
abbrev cX12_back : ByteArray := prog_14_method_76_code
def yX12_back : MethodName := ⟨RX12, "back", "()V"⟩
abbrev cX12_least : ByteArray := prog_14_method_79_code
def yX12_least : MethodName := ⟨RX12, "least", "(I)I"⟩
abbrev cX12_who : ByteArray := prog_14_method_80_code
def yX12_who : MethodName := ⟨RX12, "who", "()I"⟩
abbrev cX12_burdens : ByteArray := prog_14_method_81_code
def yX12_burdens : MethodName := ⟨RX12, "burdens", "()I"⟩
abbrev cX12_family : ByteArray := prog_14_method_83_code
def yX12_family : MethodName := ⟨RX12, "family", "(I)I"⟩
abbrev cX12_familyOf : ByteArray := prog_14_method_84_code
def yX12_familyOf : MethodName := ⟨RX12, "familyOf", "()I"⟩
abbrev cX12_changes : ByteArray := prog_14_method_85_code
def yX12_changes : MethodName := ⟨RX12, "changes", "(I)I"⟩
abbrev cX12_changed : ByteArray := prog_14_method_86_code
def yX12_changed : MethodName := ⟨RX12, "changed", "()I"⟩
abbrev cX12_house : ByteArray := prog_14_method_88_code
def yX12_house : MethodName := ⟨RX12, "house", "(I)I"⟩
abbrev cX12_both : ByteArray := prog_14_method_90_code
def yX12_both : MethodName := ⟨RX12, "both", "(II)I"⟩
abbrev cX12_spared : ByteArray := prog_14_method_91_code
def yX12_spared : MethodName := ⟨RX12, "spared", "(III)I"⟩
abbrev cX12_counts : ByteArray := prog_14_method_94_code
def yX12_counts : MethodName := ⟨RX12, "counts", "()I"⟩
abbrev cX12_surely : ByteArray := prog_14_method_95_code
def yX12_surely : MethodName := ⟨RX12, "surely", "()I"⟩
abbrev cX12_look : ByteArray := prog_14_method_96_code
def yX12_look : MethodName := ⟨RX12, "look", "()I"⟩
abbrev cX12_cut : ByteArray := prog_14_method_97_code
def yX12_cut : MethodName := ⟨RX12, "cut", "(II)I"⟩
abbrev cX12_settles : ByteArray := prog_14_method_98_code
def yX12_settles : MethodName := ⟨RX12, "settles", "()I"⟩
abbrev cX12_plate : ByteArray := prog_14_method_102_code
def yX12_plate : MethodName := ⟨RX12, "plate", "(I)I"⟩
abbrev cX12_byteAt : ByteArray := prog_14_method_103_code
def yX12_byteAt : MethodName := ⟨RX12, "byteAt", "(I)I"⟩
abbrev cX12_drawn : ByteArray := prog_14_method_107_code
def yX12_drawn : MethodName := ⟨RX12, "drawn", "(II)I"⟩
abbrev cX12_odds : ByteArray := prog_14_method_108_code
def yX12_odds : MethodName := ⟨RX12, "odds", "(III)I"⟩
abbrev cX12_book : ByteArray := prog_14_method_111_code
def yX12_book : MethodName := ⟨RX12, "book", "(I)I"⟩
abbrev cX12_told : ByteArray := prog_14_method_112_code
def yX12_told : MethodName := ⟨RX12, "told", "(I)I"⟩
abbrev cX12_leafOf : ByteArray := prog_14_method_116_code
def yX12_leafOf : MethodName := ⟨RX12, "leafOf", "()I"⟩
abbrev cX12_operand : ByteArray := prog_14_method_117_code
def yX12_operand : MethodName := ⟨RX12, "operand", "()Z"⟩
abbrev cX12_sentence : ByteArray := prog_14_method_119_code
def yX12_sentence : MethodName := ⟨RX12, "sentence", "()I"⟩
abbrev cX12_said : ByteArray := prog_14_method_122_code
def yX12_said : MethodName := ⟨RX12, "said", "(I)I"⟩
abbrev cX12_image : ByteArray := prog_14_method_123_code
def yX12_image : MethodName := ⟨RX12, "image", "(I)Z"⟩
abbrev cX12_restore : ByteArray := prog_14_method_124_code
def yX12_restore : MethodName := ⟨RX12, "restore", "(I)Z"⟩
abbrev cX12_count : ByteArray := prog_14_method_125_code
def yX12_count : MethodName := ⟨RX12, "count", "(I)I"⟩
def RJ6 : String := "java/lang/Integer"
def RJ9 : String := "java/lang/Math"
def RJ0 : String := "java/lang/String"
abbrev cJ0_length_8abf5 : ByteArray := prog_22_method_54_code
def yJ0_length_8abf5 : MethodName := ⟨RJ0, "length", "()I"⟩
abbrev cJ0_charAt_5068e : ByteArray := prog_22_method_56_code
def yJ0_charAt_5068e : MethodName := ⟨RJ0, "charAt", "(I)C"⟩
abbrev cJ0_coder_7d493 : ByteArray := prog_22_method_152_code
def yJ0_coder_7d493 : MethodName := ⟨RJ0, "coder", "()B"⟩
abbrev cJ0_isLatin1_aae02 : ByteArray := prog_22_method_154_code
def yJ0_isLatin1_aae02 : MethodName := ⟨RJ0, "isLatin1", "()Z"⟩
abbrev cJ0_checkIndex_df160 : ByteArray := prog_22_method_155_code
def yJ0_checkIndex_df160 : MethodName := ⟨RJ0, "checkIndex", "(II)V"⟩
def RJ1 : String := "java/lang/StringLatin1"
abbrev cJ1_charAt_3b067 : ByteArray := prog_23_method_2_code
def yJ1_charAt_3b067 : MethodName := ⟨RJ1, "charAt", "([BI)C"⟩
def RJ2 : String := "java/lang/StringUTF16"
def RJ10 : String := "java/lang/System"
def RJ7 : String := "java/util/Arrays"
abbrev cJ7_fill_53178 : ByteArray := prog_29_method_103_code
def yJ7_fill_53178 : MethodName := ⟨RJ7, "fill", "([II)V"⟩
def RJ3 : String := "jdk/internal/util/Preconditions"
abbrev cJ3_checkIndex_8e157 : ByteArray := prog_31_method_11_code
def yJ3_checkIndex_8e157 : MethodName := ⟨RJ3, "checkIndex", "(IILjava/util/function/BiFunction;)I"⟩
def RL : String := "OboeDistrictLaw"
abbrev cL_person : ByteArray := method_3_code
def yL_person : MethodName := ⟨RL, "person", "(LOboeDistrict;II[J)I"⟩
abbrev cL_law : ByteArray := code
def yL_law : MethodName := ⟨RL, "law", "([I)Z"⟩
abbrev vwCl : List vw_C := [(RX0, TX0, 9), (RX1, TX1, 3), (RX2, TX2, 11), (RX3, TX3, 2), (RX4, TX4, 2), (RX5, TX5, 10), (RX6, TX6, 5), (RX7, TX7, 4), (RX8, TX8, 5), (RX9, TX9, 15), (RX10, TX10, 8), (RX11, TX11, 15), (RX12, TX12, 55)]
end
section
/-! A run of bytecode over what is known of numbers (an interval) and of cells (by their places), as a function: the machine's own steps are held to it in the parts behind. -/
/-- a value: a number between two; or (0, _) null, (1, _) a long, (2, k) the cell at place k, (3, j) the text j, (4, j) its bytes, (5, _) the script, (6, _) a cell or null, (9, _) not set -/
abbrev rvV : Type := (Int × Int) ⊕ (Nat × Nat)
/-- a cell: an object (its class, its fields) or a row (its kind, length, what all hold, what some hold instead) -/
abbrev rvC : Type := (Nat × List rvV) ⊕ (Nat × Nat × rvV × List (Nat × rvV))
abbrev rvH : Type := List rvC
/-- pc, locals, stack, cells, how many cells and slots were made -/
abbrev rvS : Type := Nat × List rvV × List rvV × rvH × Nat × Nat
/-- an instruction, its length, what it links to (three numbers), the place of its word -/
abbrev rvE : Type := Instr × Nat × Nat × Nat × Nat × Nat
/-- a method: locals, then frames, cells, slots, locals that it may take, the class of its receiver -/
abbrev rvM : Type := Nat × Nat × Nat × Nat × Nat × Nat
abbrev rvO : Type := Option (Option rvV × rvH)
def rvK (n : Int) : rvV := .inl (n, n)
def rvTop : rvV := .inl (-2147483648, 2147483647)
def rvU : rvV := .inr (9, 0)
def rvL : rvV := .inr (1, 0)
def rvIsL (v : rvV) : Bool := match v with
  | .inr (1, _) => true
  | _ => false
/-- a reference or null, as aload takes it -/
def rvIsA (v : rvV) : Bool := match v with
  | .inr (1, _) => false
  | .inr (9, _) => false
  | .inr _ => true
  | .inl _ => false
def rvOne (a : Int × Int) : Bool := decide (a.1 = a.2)
def rvBin (f : Int32 → Int32 → Int32) (a b : Int × Int) : rvV := bif rvOne a && rvOne b then rvK (f (Int32.ofInt a.1) (Int32.ofInt b.1)).toInt else rvTop
def rvLt (a b : Int × Int) : Option Bool := bif decide (a.2 < b.1) then some true else bif decide (b.2 ≤ a.1) then some false else none
def rvEq (a b : Int × Int) : Option Bool := bif rvOne a && rvOne b then some (decide (a.1 = b.1)) else bif decide (a.2 < b.1) || decide (b.2 < a.1) then some false else none
def rvNo (o : Option Bool) : Option Bool := match o with
  | some b => some (!b)
  | none => none
def rvCmp (c : ClassFile.Cond) (a b : Int × Int) : Option Bool := match c with
  | .eq => rvEq a b
  | .ne => rvNo (rvEq a b)
  | .lt => rvLt a b
  | .ge => rvNo (rvLt a b)
  | .gt => rvLt b a
  | .le => rvNo (rvLt b a)
def rvJ (pc : Nat) (off : Int) : Option Nat := bif decide (0 ≤ (pc : Int) + off) then some ((pc : Int) + off).toNat else none
def rvIdx (a : Int × Int) (n : Nat) : Option Nat := bif rvOne a && (decide (0 ≤ a.1) && decide (a.1 < (n : Int))) then some a.1.toNat else none
def rvLook (d : rvV) (ov : List (Nat × rvV)) (j : Nat) : rvV := match ov with
  | [] => d
  | (k, v) :: t => bif Nat.beq k j then v else rvLook d t j
def rvUp (ov : List (Nat × rvV)) (j : Nat) (v : rvV) : List (Nat × rvV) := match ov with
  | [] => [(j, v)]
  | (k, w) :: t => bif Nat.beq k j then (j, v) :: t else (k, w) :: rvUp t j v
def rvIn (a : Int × Int) (lo hi : Int) : Bool := decide (lo ≤ a.1) && decide (a.2 ≤ hi)
def rvFit (ty : FieldType) (v : rvV) : Bool := match ty, v with
  | .int, .inl _ => true
  | .boolean, .inl a => rvIn a 0 1
  | .byte, .inl a => rvIn a (-128) 127
  | .char, .inl a => rvIn a 0 65535
  | .long, .inr (1, _) => true
  | .object _, .inr (0, _) => true
  | .object _, .inr (2, _) => true
  | .array _, .inr (0, _) => true
  | .array _, .inr (2, _) => true
  | _, _ => false
def rvDef (ty : FieldType) : rvV := match ty with
  | .int => rvK 0
  | .boolean => rvK 0
  | .long => rvL
  | _ => .inr (0, 0)
/-- a local is set; the first half of a long that it cuts is not set any more -/
def rvSet (al : List rvV) (i : Nat) (v : rvV) : List rvV := match i with
  | 0 => al.set 0 v
  | k + 1 => match al[k]? with
    | some w => bif rvIsL w then (al.set k rvU).set (k + 1) v else al.set (k + 1) v
    | none => al
def rvWd (st : List rvV) : Nat := match st with
  | [] => 0
  | v :: t => (bif rvIsL v then 2 else 1) + rvWd t
def rvPop (n : Nat) (st acc : List rvV) : Option (List rvV × List rvV) := match n, st with
  | 0, st => some (acc, st)
  | _ + 1, [] => none
  | k + 1, v :: t => rvPop k t (v :: acc)
def rvEnt (as : List rvV) : List rvV := match as with
  | [] => []
  | v :: t => bif rvIsL v then v :: rvU :: rvEnt t else v :: rvEnt t
def rvLen (st : List rvV) : Nat := match st with
  | [] => 0
  | _ :: t => rvLen t + 1
/-- one instruction that calls nothing -/
def rvStep (tys : Nat → Nat → FieldType) (nf : Nat → Nat) (txt : List Int) (sc : List (Int × Int)) (BC BS mL : Nat) (i : Instr) (a1 a2 a3 : Nat) (pc : Nat) (al st : List rvV) (aw : rvH) (kc ks : Nat) : Option rvS :=
  match i with
  | .iconst n => bif rvIn (n, n) (-2147483648) 2147483647 then some (pc + 1, al, rvK n :: st, aw, kc, ks) else none
  | .bipush n => bif rvIn (n, n) (-128) 127 then some (pc + 2, al, rvK n :: st, aw, kc, ks) else none
  | .sipush n => bif rvIn (n, n) (-32768) 32767 then some (pc + 3, al, rvK n :: st, aw, kc, ks) else none
  | .lconst _ => some (pc + 1, al, rvL :: st, aw, kc, ks)
  | .ldc2_w _ => some (pc + 3, al, rvL :: st, aw, kc, ks)
  | .ldc _ => some (pc + 2, al, .inr (3, 0) :: st, aw, kc, ks)
  | .aconst_null => some (pc + 1, al, .inr (0, 0) :: st, aw, kc, ks)
  | .iload k => match al[k]? with
    | some (.inl a) => some (pc + 2, al, .inl a :: st, aw, kc, ks)
    | _ => none
  | .iload_n k => match al[k.val]? with
    | some (.inl a) => some (pc + 1, al, .inl a :: st, aw, kc, ks)
    | _ => none
  | .lload k => match al[k]? with
    | some (.inr (1, _)) => some (pc + 2, al, rvL :: st, aw, kc, ks)
    | _ => none
  | .lload_n k => match al[k.val]? with
    | some (.inr (1, _)) => some (pc + 1, al, rvL :: st, aw, kc, ks)
    | _ => none
  | .aload k => match al[k]? with
    | some v => bif rvIsA v then some (pc + 2, al, v :: st, aw, kc, ks) else none
    | _ => none
  | .aload_n k => match al[k.val]? with
    | some v => bif rvIsA v then some (pc + 1, al, v :: st, aw, kc, ks) else none
    | _ => none
  | .istore k => match st with
    | .inl a :: st => bif Nat.blt k mL then some (pc + 2, rvSet al k (.inl a), st, aw, kc, ks) else none
    | _ => none
  | .istore_n k => match st with
    | .inl a :: st => bif Nat.blt k.val mL then some (pc + 1, rvSet al k.val (.inl a), st, aw, kc, ks) else none
    | _ => none
  | .lstore k => match st with
    | .inr (1, _) :: st => bif Nat.blt (k + 1) mL then some (pc + 2, (rvSet al k rvL).set (k + 1) rvU, st, aw, kc, ks) else none
    | _ => none
  | .lstore_n k => match st with
    | .inr (1, _) :: st => bif Nat.blt (k.val + 1) mL then some (pc + 1, (rvSet al k.val rvL).set (k.val + 1) rvU, st, aw, kc, ks) else none
    | _ => none
  | .astore k => match st with
    | v :: st => bif rvIsA v && Nat.blt k mL then some (pc + 2, rvSet al k v, st, aw, kc, ks) else none
    | _ => none
  | .astore_n k => match st with
    | v :: st => bif rvIsA v && Nat.blt k.val mL then some (pc + 1, rvSet al k.val v, st, aw, kc, ks) else none
    | _ => none
  | .iinc k n => match al[k]? with
    | some (.inl a) => bif Nat.blt k mL && rvIn (n, n) (-2147483648) 2147483647 then some (pc + 3, rvSet al k (rvBin (· + ·) a (n, n)), st, aw, kc, ks) else none
    | _ => none
  | .iadd => match st with
    | .inl b :: .inl a :: st => some (pc + 1, al, rvBin (· + ·) a b :: st, aw, kc, ks)
    | _ => none
  | .isub => match st with
    | .inl b :: .inl a :: st => some (pc + 1, al, rvBin (· - ·) a b :: st, aw, kc, ks)
    | _ => none
  | .imul => match st with
    | .inl b :: .inl a :: st => some (pc + 1, al, rvBin (· * ·) a b :: st, aw, kc, ks)
    | _ => none
  | .iand => match st with
    | .inl b :: .inl a :: st => some (pc + 1, al, rvBin (· &&& ·) a b :: st, aw, kc, ks)
    | _ => none
  | .ior => match st with
    | .inl b :: .inl a :: st => some (pc + 1, al, rvBin (· ||| ·) a b :: st, aw, kc, ks)
    | _ => none
  | .ixor => match st with
    | .inl b :: .inl a :: st => some (pc + 1, al, rvBin (· ^^^ ·) a b :: st, aw, kc, ks)
    | _ => none
  | .ishl => match st with
    | .inl b :: .inl a :: st => some (pc + 1, al, rvBin (fun x y => x <<< (y &&& 31)) a b :: st, aw, kc, ks)
    | _ => none
  | .ishr => match st with
    | .inl b :: .inl a :: st => some (pc + 1, al, rvBin (fun x y => x >>> (y &&& 31)) a b :: st, aw, kc, ks)
    | _ => none
  | .iushr => match st with
    | .inl b :: .inl a :: st => some (pc + 1, al, rvBin (fun x y => (x.toUInt32 >>> (y.toUInt32 &&& Int32.toUInt32 31)).toInt32) a b :: st, aw, kc, ks)
    | _ => none
  | .irem => match st with
    | .inl b :: .inl a :: st => bif rvOne b && !(decide (b.1 = 0)) then some (pc + 1, al, rvBin (fun x y => x - x / y * y) a b :: st, aw, kc, ks) else none
    | _ => none
  | .i2b => match st with
    | .inl a :: st => some (pc + 1, al, (bif rvOne a then rvK (Int32.ofInt a.1).toInt8.toInt32.toInt else .inl (-128, 127)) :: st, aw, kc, ks)
    | _ => none
  | .i2c => match st with
    | .inl a :: st => some (pc + 1, al, (bif rvOne a then rvK ((Int32.ofInt a.1).toUInt32 % 65536).toInt32.toInt else .inl (0, 65535)) :: st, aw, kc, ks)
    | _ => none
  | .i2l => match st with
    | .inl _ :: st => some (pc + 1, al, rvL :: st, aw, kc, ks)
    | _ => none
  | .lor => match st with
    | .inr (1, _) :: .inr (1, _) :: st => some (pc + 1, al, rvL :: st, aw, kc, ks)
    | _ => none
  | .lshl => match st with
    | .inl _ :: .inr (1, _) :: st => some (pc + 1, al, rvL :: st, aw, kc, ks)
    | _ => none
  | .dup => match st with
    | v :: st => bif rvIsL v then none else some (pc + 1, al, v :: v :: st, aw, kc, ks)
    | _ => none
  | .dup_x1 => match st with
    | v :: w :: st => bif rvIsL v || rvIsL w then none else some (pc + 1, al, v :: w :: v :: st, aw, kc, ks)
    | _ => none
  | .dup2 => match st with
    | v :: w :: st => bif rvIsL v || rvIsL w then none else some (pc + 1, al, v :: w :: v :: w :: st, aw, kc, ks)
    | _ => none
  | .pop => match st with
    | v :: st => bif rvIsL v then none else some (pc + 1, al, st, aw, kc, ks)
    | _ => none
  | .if_icmp c off => match st with
    | .inl b :: .inl a :: st => match rvCmp c a b, rvJ pc off with
      | some true, some t => some (t, al, st, aw, kc, ks)
      | some false, some _ => some (pc + 3, al, st, aw, kc, ks)
      | _, _ => none
    | _ => none
  | .ifCond c off => match st with
    | .inl a :: st => match rvCmp c a (0, 0), rvJ pc off with
      | some true, some t => some (t, al, st, aw, kc, ks)
      | some false, some _ => some (pc + 3, al, st, aw, kc, ks)
      | _, _ => none
    | _ => none
  | .ifnonnull off => match st with
    | .inr (0, _) :: st => some (pc + 3, al, st, aw, kc, ks)
    | .inr (2, _) :: st => match rvJ pc off with
      | some t => some (t, al, st, aw, kc, ks)
      | none => none
    | _ => none
  | .ifnull off => match st with
    | .inr (2, _) :: st => some (pc + 3, al, st, aw, kc, ks)
    | .inr (0, _) :: st => match rvJ pc off with
      | some t => some (t, al, st, aw, kc, ks)
      | none => none
    | _ => none
  | .goto off => match rvJ pc off with
    | some t => some (t, al, st, aw, kc, ks)
    | none => none
  | .tableswitch dflt lo hi offs => match st with
    | .inl a :: st => bif decide (a.2 < lo) || decide (hi < a.1) then (match rvJ pc dflt with
        | some t => some (t, al, st, aw, kc, ks)
        | none => none)
      else bif rvOne a && (decide (lo ≤ a.1) && decide (a.1 ≤ hi)) then (match offs[(a.1 - lo).toNat]? with
        | some off => (match rvJ pc off with
          | some t => some (t, al, st, aw, kc, ks)
          | none => none)
        | none => none)
      else none
    | _ => none
  | .getfield _ => match st with
    | .inr (2, k) :: st => match aw[k]? with
      | some (.inl (ci, fs)) => bif Nat.beq ci a1 then (match fs[a2]? with
        | some w => some (pc + 3, al, w :: st, aw, kc, ks)
        | none => none) else none
      | _ => none
    | .inr (3, j) :: st => bif Nat.beq a1 100 && Nat.beq j 0 then some (pc + 3, al, (bif Nat.beq a2 0 then .inr (4, 0) else rvK 0) :: st, aw, kc, ks) else none
    | _ => none
  | .putfield _ => match st with
    | v :: .inr (2, k) :: st => match aw[k]? with
      | some (.inl (ci, fs)) => bif Nat.beq ci a1 && (rvFit (tys ci a2) v && Nat.blt a2 (rvLen fs)) then some (pc + 3, al, st, aw.set k (.inl (ci, fs.set a2 v)), kc, ks) else none
      | _ => none
    | _ => none
  | .getstatic _ => some (pc + 3, al, (bif Nat.beq a1 0 then rvK 1 else .inr (6, 0)) :: st, aw, kc, ks)
  | .arraylength => match st with
    | .inr (2, k) :: st => match aw[k]? with
      | some (.inr (_, n, _, _)) => bif Nat.blt n 2147483648 then some (pc + 1, al, rvK (n : Int) :: st, aw, kc, ks) else none
      | _ => none
    | .inr (4, j) :: st => bif Nat.beq j 0 then some (pc + 1, al, rvK (txt.length : Int) :: st, aw, kc, ks) else none
    | _ => none
  | .iaload => match st with
    | .inl x :: .inr (2, k) :: st => match aw[k]? with
      | some (.inr (0, n, d, ov)) => match rvIdx x n with
        | some j => some (pc + 1, al, rvLook d ov j :: st, aw, kc, ks)
        | none => none
      | _ => none
    | .inl x :: .inr (5, z) :: st => match rvIdx x sc.length with
      | some j => match sc[j]? with
        | some a => bif Nat.beq z 0 then some (pc + 1, al, .inl a :: st, aw, kc, ks) else none
        | none => none
      | none => none
    | _ => none
  | .baload => match st with
    | .inl x :: .inr (2, k) :: st => match aw[k]? with
      | some (.inr (1, n, d, ov)) => match rvIdx x n with
        | some j => some (pc + 1, al, rvLook d ov j :: st, aw, kc, ks)
        | none => none
      | some (.inr (2, n, d, ov)) => match rvIdx x n with
        | some j => some (pc + 1, al, rvLook d ov j :: st, aw, kc, ks)
        | none => none
      | _ => none
    | .inl x :: .inr (4, z) :: st => match rvIdx x txt.length with
      | some j => match txt[j]? with
        | some b => bif Nat.beq z 0 then some (pc + 1, al, rvK b :: st, aw, kc, ks) else none
        | none => none
      | none => none
    | _ => none
  | .laload => match st with
    | .inl x :: .inr (2, k) :: st => match aw[k]? with
      | some (.inr (3, n, _, _)) => match rvIdx x n with
        | some _ => some (pc + 1, al, rvL :: st, aw, kc, ks)
        | none => none
      | _ => none
    | _ => none
  | .aaload => match st with
    | .inl x :: .inr (2, k) :: st => match aw[k]? with
      | some (.inr (4, n, d, ov)) => match rvIdx x n with
        | some j => some (pc + 1, al, rvLook d ov j :: st, aw, kc, ks)
        | none => none
      | some (.inr (5, n, d, ov)) => match rvIdx x n with
        | some j => some (pc + 1, al, rvLook d ov j :: st, aw, kc, ks)
        | none => none
      | _ => none
    | _ => none
  | .iastore => match st with
    | .inl v :: .inl x :: .inr (2, k) :: st => match aw[k]? with
      | some (.inr (0, n, d, ov)) => match rvIdx x n with
        | some j => some (pc + 1, al, st, aw.set k (.inr (0, n, d, rvUp ov j (.inl v))), kc, ks)
        | none => none
      | _ => none
    | _ => none
  | .bastore => match st with
    | .inl v :: .inl x :: .inr (2, k) :: st => match aw[k]? with
      | some (.inr (1, n, d, ov)) => match rvIdx x n with
        | some j => bif rvIn v (-128) 127 then some (pc + 1, al, st, aw.set k (.inr (1, n, d, rvUp ov j (.inl v))), kc, ks) else none
        | none => none
      | some (.inr (2, n, d, ov)) => match rvIdx x n with
        | some j => bif rvIn v 0 1 then some (pc + 1, al, st, aw.set k (.inr (2, n, d, rvUp ov j (.inl v))), kc, ks) else none
        | none => none
      | _ => none
    | _ => none
  | .lastore => match st with
    | .inr (1, _) :: .inl x :: .inr (2, k) :: st => match aw[k]? with
      | some (.inr (3, n, _, _)) => match rvIdx x n with
        | some _ => some (pc + 1, al, st, aw, kc, ks)
        | none => none
      | _ => none
    | _ => none
  | .aastore => match st with
    | v :: .inl x :: .inr (2, k) :: st => match aw[k]? with
      | some (.inr (q, n, d, ov)) => match rvIdx x n with
        | some j => match v with
          | .inr (0, z) => bif Nat.beq q 4 || Nat.beq q 5 then some (pc + 1, al, st, aw.set k (.inr (q, n, d, rvUp ov j (.inr (0, z)))), kc, ks) else none
          | .inr (2, z) => match aw[z]? with
            | some (.inl (ci, _)) => bif (Nat.beq q 4 && Nat.beq ci 2) || (Nat.beq q 5 && Nat.beq ci 6) then some (pc + 1, al, st, aw.set k (.inr (q, n, d, rvUp ov j (.inr (2, z)))), kc, ks) else none
            | _ => none
          | _ => none
        | none => none
      | _ => none
    | _ => none
  | .new _ => bif Nat.ble (kc + 1) BC && Nat.ble (ks + nf a1) BS then some (pc + 3, al, .inr (2, aw.length) :: st, aw ++ [.inl (a1, (List.range (nf a1)).map (fun k => rvDef (tys a1 k)))], kc + 1, ks + nf a1) else none
  | .newarray _ => match st with
    | .inl x :: st => bif rvOne x && (decide (0 ≤ x.1) && (decide (x.1 ≤ 100000) && (Nat.ble (kc + 1) BC && Nat.ble (ks + x.1.toNat) BS))) then some (pc + 2, al, .inr (2, aw.length) :: st, aw ++ [.inr (a1, x.1.toNat, (bif Nat.beq a1 3 then rvL else rvK 0), [])], kc + 1, ks + x.1.toNat) else none
    | _ => none
  | .anewarray _ => match st with
    | .inl x :: st => bif rvOne x && (decide (0 ≤ x.1) && (decide (x.1 ≤ 100000) && (Nat.ble (kc + 1) BC && Nat.ble (ks + x.1.toNat) BS))) then some (pc + 3, al, .inr (2, aw.length) :: st, aw ++ [.inr (a1, x.1.toNat, .inr (0, 0), [])], kc + 1, ks + x.1.toNat) else none
    | _ => none
  | _ => none
/-- a call: the callee's answer is put on the stack, its cells are the cells now -/
def rvInv (call : Nat → List rvV → rvH → rvO) (info : Nat → rvM) (BF BC BS BL : Nat) (j n : Nat) (virt : Bool) (pc : Nat) (al st : List rvV) (aw : rvH) (kc ks : Nat) : Option rvS :=
  match rvPop n st [] with
  | some (as, rest) => match info j with
    | (mL, fr, ce, sl, lo, cls) =>
      bif Nat.ble (fr + 1) BF && (Nat.ble (8 + (mL + 11) + lo) BL && (Nat.ble (kc + ce) BC && Nat.ble (ks + sl) BS)) then
        (bif virt then (match rest with
          | .inr (2, k) :: rest => (match aw[k]? with
            | some (.inl (ci, _)) => bif Nat.beq ci cls && Nat.ble (rvWd rest) 8 then (match call j (.inr (2, k) :: as) aw with
              | some (some v, aw') => some (pc + 3, al, v :: rest, aw', kc + ce, ks + sl)
              | some (none, aw') => some (pc + 3, al, rest, aw', kc + ce, ks + sl)
              | none => none) else none
            | _ => none)
          | .inr (3, k) :: rest => bif (Nat.beq cls 100 && Nat.beq k 0) && Nat.ble (rvWd rest) 8 then (match call j (.inr (3, k) :: as) aw with
              | some (some v, aw') => some (pc + 3, al, v :: rest, aw', kc + ce, ks + sl)
              | some (none, aw') => some (pc + 3, al, rest, aw', kc + ce, ks + sl)
              | none => none) else none
          | _ => none)
        else bif Nat.ble (rvWd rest) 8 then (match call j as aw with
          | some (some v, aw') => some (pc + 3, al, v :: rest, aw', kc + ce, ks + sl)
          | some (none, aw') => some (pc + 3, al, rest, aw', kc + ce, ks + sl)
          | none => none) else none)
      else none
  | none => none
/-- System.arraycopy of a whole row of ints to another of its length -/
def rvCopy (BF BL : Nat) (pc : Nat) (al st : List rvV) (aw : rvH) (kc ks : Nat) : Option rvS :=
  match st with
  | .inl n :: .inl dp :: .inr (2, x) :: .inl sp :: .inr (2, y) :: rest => match aw[y]?, aw[x]? with
    | some (.inr (0, m, d, ov)), some (.inr (0, m', _, _)) => bif rvOne n && (decide (n.1 = (m : Int)) && (Nat.beq m m' && (rvOne dp && (decide (dp.1 = 0) && (rvOne sp && (decide (sp.1 = 0) && (Nat.ble 1 BF && (Nat.ble (rvWd rest + 60) BL && Nat.blt m 2147483648)))))))) then some (pc + 3, al, rest, aw.set x (.inr (0, m', d, ov)), kc, ks) else none
    | _, _ => none
  | _ => none
/-- what comes next: nothing that is known, a stop, or a state -/
def rvNext (tys : Nat → Nat → FieldType) (nf : Nat → Nat) (txt : List Int) (sc : List (Int × Int)) (call : Nat → List rvV → rvH → rvO) (info : Nat → rvM) (tab : Nat → Option rvE) (stop BF BC BS BL mL : Nat) (pc : Nat) (al st : List rvV) (aw : rvH) (kc ks : Nat) : Option (Option rvS) :=
  bif Nat.beq pc stop then some none else
  match tab pc with
  | none => none
  | some (i, _, a1, a2, a3, _) => match i with
    | .ireturn => some none
    | .lreturn => some none
    | .areturn => some none
    | .return_ => some none
    | .invokevirtual _ => (match rvInv call info BF BC BS BL a1 a2 true pc al st aw kc ks with
      | some s => some (some s)
      | none => none)
    | .invokespecial _ => bif Nat.beq a3 9 then (match st with
        | .inr (2, _) :: rest => bif Nat.ble 1 BF && Nat.ble (rvWd rest + 12) BL then some (some (pc + 3, al, rest, aw, kc, ks)) else none
        | _ => none)
      else (match rvInv call info BF BC BS BL a1 a2 true pc al st aw kc ks with
      | some s => some (some s)
      | none => none)
    | .invokestatic _ => bif Nat.beq a3 8 then (match rvCopy BF BL pc al st aw kc ks with
      | some s => some (some s)
      | none => none)
      else (match rvInv call info BF BC BS BL a1 a2 false pc al st aw kc ks with
      | some s => some (some s)
      | none => none)
    | i => (match rvStep tys nf txt sc BC BS mL i a1 a2 a3 pc al st aw kc ks with
      | some s => some (some s)
      | none => none)
/-- at most n steps, to a stop -/
noncomputable def rvRun (tys : Nat → Nat → FieldType) (nf : Nat → Nat) (txt : List Int) (sc : List (Int × Int)) (call : Nat → List rvV → rvH → rvO) (info : Nat → rvM) (tab : Nat → Option rvE) (stop BF BC BS BL mL : Nat) (n : Nat) : Nat → List rvV → List rvV → rvH → Nat → Nat → Option rvS :=
  Nat.rec (motive := fun _ => Nat → List rvV → List rvV → rvH → Nat → Nat → Option rvS) (fun pc al st aw kc ks => some (pc, al, st, aw, kc, ks))
    (fun _ ih pc al st aw kc ks => match rvNext tys nf txt sc call info tab stop BF BC BS BL mL pc al st aw kc ks with
      | none => none
      | some none => some (pc, al, st, aw, kc, ks)
      | some (some (pc, al, st, aw, kc, ks)) => ih pc al st aw kc ks) n
/-- behind a run: the answer, if it stands at a return -/
def rvEnd (tab : Nat → Option rvE) (ret : Option FieldType) (ce sl : Nat) (o : Option rvS) : rvO := match o with
  | some (pc, _, st, aw, kc, ks) => bif Nat.ble kc ce && Nat.ble ks sl then (match tab pc with
    | some (.ireturn, _) => (match st, ret with
      | [.inl a], some ty => bif rvFit ty (.inl a) then some (some (.inl a), aw) else none
      | _, _ => none)
    | some (.lreturn, _) => (match st, ret with
      | [.inr (1, z)], some .long => some (some (.inr (1, z)), aw)
      | _, _ => none)
    | some (.return_, _) => (match st, ret with
      | [], none => some (none, aw)
      | _, _ => none)
    | _ => none) else none
  | none => none
/-- a method's answer, calls at most d deep, each of at most n steps; what orc knows is taken from there -/
noncomputable def rvExec (tys : Nat → Nat → FieldType) (nf : Nat → Nat) (txt : List Int) (orc : Nat → List rvV → rvH → rvO) (info : Nat → rvM) (rets : Nat → Option FieldType) (tabs : Nat → Nat → Option rvE) (n : Nat) (d : Nat) : Nat → List rvV → rvH → rvO :=
  Nat.rec (motive := fun _ => Nat → List rvV → rvH → rvO) orc
    (fun _ ih j as aw => match orc j as aw with
      | some r => some r
      | none => match info j with
        | (mL, fr, ce, sl, lo, _) => bif Nat.ble (rvLen (rvEnt as)) mL then rvEnd (tabs j) (rets j) ce sl (rvRun tys nf txt [] ih info (tabs j) 99999999 fr ce sl lo mL n 0 (rvEnt as ++ List.replicate (mL - rvLen (rvEnt as)) rvU) [] aw 0 0) else none) d
end
section
/-! What the values, cells and locals of a run say of the machine's. -/
theorem rv_beq {a b : Nat} (h : Nat.beq a b = true) : a = b := Nat.eq_of_beq_eq_true h
theorem rv_ble {a b : Nat} (h : Nat.ble a b = true) : a ≤ b := Nat.le_of_ble_eq_true h
theorem rv_blt {a b : Nat} (h : Nat.blt a b = true) : a < b := Nat.le_of_ble_eq_true h
theorem rv_bif {α : Type} {c : Bool} {a r : α} (h : (bif c then some a else none) = some r) : c = true ∧ a = r := by
  cases c with
  | true => exact ⟨rfl, Option.some.inj h⟩
  | false => cases h
theorem rv_nbif {α : Type} {c : Bool} {a r : α} (h : (bif c then none else some a) = some r) : c = false ∧ a = r := by
  cases c with
  | false => exact ⟨rfl, Option.some.inj h⟩
  | true => cases h
theorem rv_and {a b : Bool} (h : (a && b) = true) : a = true ∧ b = true := by
  cases a <;> cases b <;> first | exact ⟨rfl, rfl⟩ | cases h
theorem rv_or {a b : Bool} (h : (a || b) = false) : a = false ∧ b = false := by
  cases a <;> cases b <;> first | exact ⟨rfl, rfl⟩ | cases h
theorem rv_or' {a b : Bool} (h : (a || b) = true) : a = true ∨ b = true := by
  cases a <;> cases b <;> first | exact Or.inl rfl | exact Or.inr rfl | cases h
def rvR (ad : List Nat) (ex : Nat → Nat → Nat) (v : rvV) (x : Value) : Prop := match v with
  | .inl a => ∃ n : Int32, x = .int n ∧ a.1 ≤ n.toInt ∧ n.toInt ≤ a.2
  | .inr (0, _) => x = .null
  | .inr (1, _) => ∃ n : Int64, x = .long n
  | .inr (2, k) => ∃ q : Nat, ad[k]? = some q ∧ x = .ref q
  | .inr (6, _) => x = .null ∨ ∃ q : Nat, x = .ref q
  | .inr (9, _) => False
  | .inr (t, k) => x = .ref (ex t k)
def rvRs (ad : List Nat) (ex : Nat → Nat → Nat) : List rvV → List Value → Prop
  | [], [] => True
  | v :: vs, x :: xs => rvR ad ex v x ∧ rvRs ad ex vs xs
  | _, _ => False
theorem rvR_mono {ad : List Nat} {ex : Nat → Nat → Nat} {v : rvV} {x : Value} (t : List Nat) (h : rvR ad ex v x) : rvR (ad ++ t) ex v x := by
  rcases v with a | ⟨t0, k⟩
  · exact h
  · match t0, h with
    | 0, h => exact h
    | 1, h => exact h
    | 2, h =>
      obtain ⟨q, h1, h2⟩ := h
      exact ⟨q, by rw [List.getElem?_append_left (List.getElem?_eq_some_iff.mp h1).1]; exact h1, h2⟩
    | 3, h => exact h
    | 4, h => exact h
    | 5, h => exact h
    | 6, h => exact h
    | 7, h => exact h
    | 8, h => exact h
    | 9, h => exact h
    | n + 10, h => exact h
theorem rvR_cat {ad : List Nat} {ex : Nat → Nat → Nat} {v : rvV} {x : Value} (h : rvR ad ex v x) : x.category = bif rvIsL v then 2 else 1 := by
  rcases v with a | ⟨t0, k⟩
  · obtain ⟨n, rfl, -⟩ := h
    rfl
  · match t0, h with
    | 0, h => cases h; rfl
    | 1, h => obtain ⟨n, rfl⟩ := h; rfl
    | 2, h => obtain ⟨q, -, rfl⟩ := h; rfl
    | 3, h => cases h; rfl
    | 4, h => cases h; rfl
    | 5, h => cases h; rfl
    | 6, h => rcases h with rfl | ⟨q, rfl⟩ <;> rfl
    | 7, h => cases h; rfl
    | 8, h => cases h; rfl
    | 9, h => exact absurd h id
    | n + 10, h => cases h; rfl
theorem rvR_A {ad : List Nat} {ex : Nat → Nat → Nat} {v : rvV} {x : Value} (hv : rvIsA v = true) (h : rvR ad ex v x) : x = .null ∨ ∃ q : Nat, x = .ref q := by
  rcases v with a | ⟨t0, k⟩
  · cases hv
  · match t0, h, hv with
    | 0, h, _ => exact Or.inl h
    | 1, h, hv => cases hv
    | 2, h, _ => obtain ⟨q, -, rfl⟩ := h; exact Or.inr ⟨q, rfl⟩
    | 3, h, _ => exact Or.inr ⟨_, h⟩
    | 4, h, _ => exact Or.inr ⟨_, h⟩
    | 5, h, _ => exact Or.inr ⟨_, h⟩
    | 6, h, _ => exact h
    | 7, h, _ => exact Or.inr ⟨_, h⟩
    | 8, h, _ => exact Or.inr ⟨_, h⟩
    | 9, h, hv => cases hv
    | n + 10, h, _ => exact Or.inr ⟨_, h⟩
theorem rvRs_mono {ad : List Nat} {ex : Nat → Nat → Nat} (t : List Nat) : ∀ {vs : List rvV} {xs : List Value}, rvRs ad ex vs xs → rvRs (ad ++ t) ex vs xs
  | [], [], _ => trivial
  | _ :: _, _ :: _, h => ⟨rvR_mono t h.1, rvRs_mono t h.2⟩
  | [], _ :: _, h => h
  | _ :: _, [], h => h
theorem rvRs_cons {ad : List Nat} {ex : Nat → Nat → Nat} {v : rvV} {vs : List rvV} {xs : List Value} (h : rvRs ad ex (v :: vs) xs) : ∃ y ys, xs = y :: ys ∧ rvR ad ex v y ∧ rvRs ad ex vs ys := by
  cases xs with
  | nil => exact absurd h id
  | cons y ys => exact ⟨y, ys, rfl, h.1, h.2⟩
theorem rvRs_nil {ad : List Nat} {ex : Nat → Nat → Nat} {xs : List Value} (h : rvRs ad ex [] xs) : xs = [] := by
  cases xs with
  | nil => rfl
  | cons y ys => exact absurd h id
theorem rvRs_get {ad : List Nat} {ex : Nat → Nat → Nat} : ∀ {vs : List rvV} {xs : List Value} {k : Nat} {v : rvV}, rvRs ad ex vs xs → vs[k]? = some v → ∃ x, xs[k]? = some x ∧ rvR ad ex v x
  | [], _, _, _, _, hv => by simp at hv
  | w :: vs, [], _, _, h, _ => absurd h id
  | w :: vs, y :: ys, 0, v, h, hv => ⟨y, rfl, by
      have e : w = v := by simpa using hv
      rw [← e]; exact h.1⟩
  | w :: vs, y :: ys, k + 1, v, h, hv => by
      obtain ⟨x, h1, h2⟩ := rvRs_get (k := k) h.2 (by simpa using hv)
      exact ⟨x, by simpa using h1, h2⟩
theorem rvRs_set {ad : List Nat} {ex : Nat → Nat → Nat} : ∀ {vs : List rvV} {xs : List Value} {k : Nat} {v : rvV} {x : Value}, rvRs ad ex vs xs → rvR ad ex v x → rvRs ad ex (vs.set k v) (xs.set k x)
  | [], [], _, _, _, _, _ => trivial
  | w :: vs, [], _, _, _, h, _ => absurd h id
  | [], y :: ys, _, _, _, h, _ => absurd h id
  | w :: vs, y :: ys, 0, v, x, h, hv => ⟨hv, h.2⟩
  | w :: vs, y :: ys, k + 1, v, x, h, hv => ⟨h.1, rvRs_set (k := k) h.2 hv⟩
theorem rvRs_len {ad : List Nat} {ex : Nat → Nat → Nat} : ∀ {vs : List rvV} {xs : List Value}, rvRs ad ex vs xs → rvLen vs = xs.length
  | [], [], _ => rfl
  | w :: vs, [], h => absurd h id
  | [], y :: ys, h => absurd h id
  | w :: vs, y :: ys, h => by
      have := rvRs_len h.2
      simp [rvLen, this]
theorem rvRs_wd {ad : List Nat} {ex : Nat → Nat → Nat} : ∀ {vs : List rvV} {xs : List Value}, rvRs ad ex vs xs → (xs.map fun v => v.category).sum = rvWd vs
  | [], [], _ => rfl
  | w :: vs, [], h => absurd h id
  | [], y :: ys, h => absurd h id
  | w :: vs, y :: ys, h => by
      have h1 := rvRs_wd h.2
      have h2 := rvR_cat h.1
      simp [rvWd, h1, h2]
theorem rvRs_pop {ad : List Nat} {ex : Nat → Nat → Nat} : ∀ (n : Nat) {st acc : List rvV} {xs ys : List Value} {as rest : List rvV}, rvPop n st acc = some (as, rest) → rvRs ad ex st xs → rvRs ad ex acc ys → ∃ us vs, xs = us ++ vs ∧ us.length = n ∧ rvRs ad ex as (us.reverse ++ ys) ∧ rvRs ad ex rest vs
  | 0, st, acc, xs, ys, as, rest, h, hs, ha => by
      simp only [rvPop, Option.some.injEq, Prod.mk.injEq] at h
      obtain ⟨rfl, rfl⟩ := h
      exact ⟨[], xs, rfl, rfl, ha, hs⟩
  | n + 1, [], acc, xs, ys, as, rest, h, hs, ha => by cases h
  | n + 1, v :: st, acc, xs, ys, as, rest, h, hs, ha => by
      obtain ⟨y, zs, rfl, h1, h2⟩ := rvRs_cons hs
      obtain ⟨us, vs, e1, e2, e3, e4⟩ := rvRs_pop n (acc := v :: acc) (ys := y :: ys) h h2 ⟨h1, ha⟩
      exact ⟨y :: us, vs, by rw [e1]; rfl, by simp [e2], by simpa using e3, e4⟩
/-- numbers -/
theorem rv_lo (n : Int32) : -2147483648 ≤ n.toInt := Int32.le_toInt n
theorem rv_hi (n : Int32) : n.toInt ≤ 2147483647 := by
  have := Int32.toInt_lt n
  omega
theorem rvR_top {ad : List Nat} {ex : Nat → Nat → Nat} (n : Int32) : rvR ad ex rvTop (.int n) := ⟨n, rfl, rv_lo n, rv_hi n⟩
theorem rvR_K {ad : List Nat} {ex : Nat → Nat → Nat} {n : Int32} {k : Int} (h : n.toInt = k) : rvR ad ex (rvK k) (.int n) := ⟨n, rfl, by show k ≤ n.toInt; omega, by show n.toInt ≤ k; omega⟩
theorem rv_one {a : Int × Int} {n : Int32} (h : rvOne a = true) (h1 : a.1 ≤ n.toInt) (h2 : n.toInt ≤ a.2) : n.toInt = a.1 ∧ n = Int32.ofInt a.1 := by
  have e : a.1 = a.2 := of_decide_eq_true h
  have e2 : n.toInt = a.1 := by omega
  exact ⟨e2, by rw [← e2, Int32.ofInt_toInt]⟩
theorem rvBin_ok {ad : List Nat} {ex : Nat → Nat → Nat} {f : Int32 → Int32 → Int32} {a b : Int × Int} {x y : Int32} (h1 : a.1 ≤ x.toInt) (h2 : x.toInt ≤ a.2) (h3 : b.1 ≤ y.toInt) (h4 : y.toInt ≤ b.2) : rvR ad ex (rvBin f a b) (.int (f x y)) := by
  unfold rvBin
  cases ha : rvOne a with
  | false => exact rvR_top _
  | true =>
    cases hb : rvOne b with
    | false => exact rvR_top _
    | true =>
      obtain ⟨-, e1⟩ := rv_one ha h1 h2
      obtain ⟨-, e2⟩ := rv_one hb h3 h4
      rw [e1, e2]
      exact rvR_K rfl
theorem rvLt_ok {a b : Int × Int} {x y : Int32} {r : Bool} (h : rvLt a b = some r) (h1 : a.1 ≤ x.toInt) (h2 : x.toInt ≤ a.2) (h3 : b.1 ≤ y.toInt) (h4 : y.toInt ≤ b.2) : (x < y) ↔ r = true := by
  rw [Int32.lt_iff_toInt_lt]
  unfold rvLt at h
  by_cases c1 : a.2 < b.1
  · rw [decide_eq_true c1] at h
    cases h
    exact ⟨fun _ => rfl, fun _ => by omega⟩
  · rw [decide_eq_false c1] at h
    obtain ⟨c2, rfl⟩ := rv_bif (show (bif decide (b.2 ≤ a.1) then some false else none) = some r from h)
    have := of_decide_eq_true c2
    exact ⟨fun q => by omega, fun q => by cases q⟩
theorem rvEq_ok {a b : Int × Int} {x y : Int32} {r : Bool} (h : rvEq a b = some r) (h1 : a.1 ≤ x.toInt) (h2 : x.toInt ≤ a.2) (h3 : b.1 ≤ y.toInt) (h4 : y.toInt ≤ b.2) : (x = y) ↔ r = true := by
  rw [← Int32.toInt_inj]
  unfold rvEq at h
  cases hc : (rvOne a && rvOne b) with
  | true =>
    rw [hc] at h
    obtain ⟨ha, hb⟩ := rv_and hc
    obtain ⟨e1, -⟩ := rv_one ha h1 h2
    obtain ⟨e2, -⟩ := rv_one hb h3 h4
    have hr : decide (a.1 = b.1) = r := Option.some.inj h
    rw [e1, e2, ← hr]
    simp
  | false =>
    rw [hc] at h
    obtain ⟨c2, rfl⟩ := rv_bif (show (bif decide (a.2 < b.1) || decide (b.2 < a.1) then some false else none) = some r from h)
    rcases rv_or' c2 with q | q
    · have := of_decide_eq_true q
      exact ⟨fun z => by omega, fun z => by cases z⟩
    · have := of_decide_eq_true q
      exact ⟨fun z => by omega, fun z => by cases z⟩
theorem rvNo_ok {o : Option Bool} {r : Bool} (h : rvNo o = some r) : o = some (!r) := by
  cases o with
  | none => cases h
  | some b =>
    have e : (!b) = r := Option.some.inj h
    rw [← e]
    simp
theorem rvJ_ok {pc t : Nat} {off : Int} (h : rvJ pc off = some t) : (pc : Int) + off = (t : Int) := by
  obtain ⟨h1, h2⟩ := rv_bif h
  have := of_decide_eq_true h1
  rw [← h2]
  omega
theorem rvIdx_ok {a : Int × Int} {n j : Nat} {x : Int32} (h : rvIdx a n = some j) (h1 : a.1 ≤ x.toInt) (h2 : x.toInt ≤ a.2) : vp_in x n ∧ x.toNatClampNeg = j ∧ j < n := by
  obtain ⟨hc, hj⟩ := rv_bif h
  obtain ⟨ha, hb⟩ := rv_and hc
  obtain ⟨hb, hd⟩ := rv_and hb
  have q1 := of_decide_eq_true hb
  have q2 := of_decide_eq_true hd
  obtain ⟨e1, -⟩ := rv_one ha h1 h2
  have e2 : x.toNatClampNeg = x.toInt.toNat := rfl
  have e3 : ¬ x < 0 := by
    rw [Int32.lt_iff_toInt_lt]
    show ¬ x.toInt < 0
    omega
  refine ⟨fun q => ?_, by rw [e2, e1, hj], by omega⟩
  rcases q with q | q
  · exact e3 q
  · rw [e2, e1] at q
    omega
theorem rv_ofInt {n : Int} (h : rvIn (n, n) (-2147483648) 2147483647 = true) : (Int32.ofInt n).toInt = n := by
  obtain ⟨h1, h2⟩ := rv_and h
  have q1 : -2147483648 ≤ n := of_decide_eq_true h1
  have q2 : n ≤ 2147483647 := of_decide_eq_true h2
  exact Int32.toInt_ofInt_of_le (by omega) (by omega)
theorem rv_ofInt8 {n : Int} (h : rvIn (n, n) (-128) 127 = true) : (Int8.ofInt n).toInt32.toInt = n := by
  obtain ⟨h1, h2⟩ := rv_and h
  have q1 : -128 ≤ n := of_decide_eq_true h1
  have q2 : n ≤ 127 := of_decide_eq_true h2
  rw [Int8.toInt_toInt32]
  exact Int8.toInt_ofInt_of_le (by omega) (by omega)
theorem rv_ofInt16 {n : Int} (h : rvIn (n, n) (-32768) 32767 = true) : (Int16.ofInt n).toInt32.toInt = n := by
  obtain ⟨h1, h2⟩ := rv_and h
  have q1 : -32768 ≤ n := of_decide_eq_true h1
  have q2 : n ≤ 32767 := of_decide_eq_true h2
  rw [Int16.toInt_toInt32]
  exact Int16.toInt_ofInt_of_le (by omega) (by omega)
/-- rows -/
theorem rvLook_up (d v : rvV) (j i : Nat) : ∀ ov : List (Nat × rvV), rvLook d (rvUp ov j v) i = if i = j then v else rvLook d ov i
  | [] => by
      show (bif Nat.beq j i then v else d) = _
      by_cases h : i = j
      · subst h; simp
      · have e : Nat.beq j i = false := by
          cases hb : Nat.beq j i with
          | false => rfl
          | true => exact absurd (rv_beq hb).symm h
        rw [e, if_neg h]
        rfl
  | (k, w) :: t => by
      have ih := rvLook_up d v j i t
      cases hb : Nat.beq k j with
      | true =>
        have e := rv_beq hb
        subst e
        have e2 : rvUp ((k, w) :: t) k v = (k, v) :: t := by simp [rvUp]
        rw [e2]
        show (bif Nat.beq k i then v else rvLook d t i) = _
        by_cases h : i = k
        · subst h; simp
        · have e : Nat.beq k i = false := by
            cases hb : Nat.beq k i with
            | false => rfl
            | true => exact absurd (rv_beq hb).symm h
          rw [e, if_neg h]
          show rvLook d t i = (bif Nat.beq k i then w else rvLook d t i)
          rw [e]
          rfl
      | false =>
        have e2 : rvUp ((k, w) :: t) j v = (k, w) :: rvUp t j v := by
          show (bif Nat.beq k j then (j, v) :: t else (k, w) :: rvUp t j v) = _
          rw [hb]; rfl
        rw [e2]
        show (bif Nat.beq k i then w else rvLook d (rvUp t j v) i) = if i = j then v else (bif Nat.beq k i then w else rvLook d t i)
        rw [ih]
        cases hc : Nat.beq k i with
        | true =>
          have e := rv_beq hc
          subst e
          have hne : ¬ k = j := fun q => by rw [q, Nat.beq_refl] at hb; cases hb
          simp [hne]
        | false => rfl
end
section
/-- a cell and what the run knows of it; cT: the classes of rows -/
def rvCe (cT : Nat → ClassId) (ad : List Nat) (ex : Nat → Nat → Nat) (c : rvC) (e : va_E) : Prop := match c with
  | .inl (ci, fs) => ∃ vs : List Value, e = .inr (ci, vs) ∧ rvRs ad ex fs vs
  | .inr (q, n, d, ov) =>
    (q < 3 ∧ ∃ f : Nat → Int32, e = .inl (cT q, n, .inl f) ∧ ∀ j, j < n → rvR ad ex (rvLook d ov j) (.int (f j))) ∨
    (q = 3 ∧ ∃ f : Nat → Int64, e = .inl (cT q, n, .inr (.inl f))) ∨
    ((q = 4 ∨ q = 5) ∧ ∃ f : Nat → Option Nat, e = .inl (cT q, n, .inr (.inr (.inr (.inr f)))) ∧ ∀ j, j < n → rvR ad ex (rvLook d ov j) (va_rf (f j)))
def rvWoo (cT : Nat → ClassId) (ad : List Nat) (ex : Nat → Nat → Nat) : rvH → va_W → Prop
  | [], [] => True
  | c :: cs, q :: qs => rvCe cT ad ex c q.2 ∧ rvWoo cT ad ex cs qs
  | _, _ => False
theorem rvCe_mono {cT : Nat → ClassId} {ad : List Nat} {ex : Nat → Nat → Nat} {c : rvC} {e : va_E} (t : List Nat) (h : rvCe cT ad ex c e) : rvCe cT (ad ++ t) ex c e := by
  rcases c with ⟨ci, fs⟩ | ⟨q, n, d, ov⟩
  · obtain ⟨vs, h1, h2⟩ := h
    exact ⟨vs, h1, rvRs_mono t h2⟩
  · rcases h with ⟨h0, f, h1, h2⟩ | h | ⟨h0, f, h1, h2⟩
    · exact Or.inl ⟨h0, f, h1, fun j hj => rvR_mono t (h2 j hj)⟩
    · exact Or.inr (Or.inl h)
    · exact Or.inr (Or.inr ⟨h0, f, h1, fun j hj => rvR_mono t (h2 j hj)⟩)
theorem rvWoo_mono {cT : Nat → ClassId} {ad : List Nat} {ex : Nat → Nat → Nat} (t : List Nat) : ∀ {aw : rvH} {ws : va_W}, rvWoo cT ad ex aw ws → rvWoo cT (ad ++ t) ex aw ws
  | [], [], _ => trivial
  | _ :: _, _ :: _, h => ⟨rvCe_mono t h.1, rvWoo_mono t h.2⟩
  | [], _ :: _, h => h
  | _ :: _, [], h => h
theorem rvWoo_get {cT : Nat → ClassId} {ad : List Nat} {ex : Nat → Nat → Nat} : ∀ {aw : rvH} {ws : va_W} {k : Nat} {c : rvC}, rvWoo cT ad ex aw ws → aw[k]? = some c → ∃ q : Nat × va_E, ws[k]? = some q ∧ rvCe cT ad ex c q.2
  | [], _, _, _, _, hv => by simp at hv
  | w :: vs, [], _, _, h, _ => absurd h id
  | w :: vs, y :: ys, 0, v, h, hv => ⟨y, rfl, by
      have e : w = v := by simpa using hv
      rw [← e]; exact h.1⟩
  | w :: vs, y :: ys, k + 1, v, h, hv => by
      obtain ⟨x, h1, h2⟩ := rvWoo_get (k := k) h.2 (by simpa using hv)
      exact ⟨x, by simpa using h1, h2⟩
theorem rvWoo_set {cT : Nat → ClassId} {ad : List Nat} {ex : Nat → Nat → Nat} : ∀ {aw : rvH} {ws : va_W} {k : Nat} {c : rvC} {q : Nat × va_E}, rvWoo cT ad ex aw ws → rvCe cT ad ex c q.2 → rvWoo cT ad ex (aw.set k c) (ws.set k q)
  | [], [], _, _, _, _, _ => trivial
  | w :: vs, [], _, _, _, h, _ => absurd h id
  | [], y :: ys, _, _, _, h, _ => absurd h id
  | w :: vs, y :: ys, 0, v, x, h, hv => ⟨hv, h.2⟩
  | w :: vs, y :: ys, k + 1, v, x, h, hv => ⟨h.1, rvWoo_set (k := k) h.2 hv⟩
theorem rvWoo_push {cT : Nat → ClassId} {ad : List Nat} {ex : Nat → Nat → Nat} {c : rvC} {q : Nat × va_E} : ∀ {aw : rvH} {ws : va_W}, rvWoo cT ad ex aw ws → rvCe cT ad ex c q.2 → rvWoo cT ad ex (aw ++ [c]) (ws ++ [q])
  | [], [], _, hv => ⟨hv, trivial⟩
  | w :: vs, [], h, _ => absurd h id
  | [], y :: ys, h, _ => absurd h id
  | w :: vs, y :: ys, h, hv => ⟨h.1, rvWoo_push h.2 hv⟩
theorem rvWoo_len {cT : Nat → ClassId} {ad : List Nat} {ex : Nat → Nat → Nat} : ∀ {aw : rvH} {ws : va_W}, rvWoo cT ad ex aw ws → aw.length = ws.length
  | [], [], _ => rfl
  | w :: vs, [], h => absurd h id
  | [], y :: ys, h => absurd h id
  | w :: vs, y :: ys, h => by simp [rvWoo_len h.2]
/-- and the first places are at the addresses that cT keeps (its numbers from 99 on) -/
def rvWo (cT : Nat → ClassId) (ad : List Nat) (ex : Nat → Nat → Nat) (aw : rvH) (ws : va_W) : Prop := rvWoo cT ad ex aw ws ∧ ∀ k : Nat, k < cT 99 → ad[k]? = some (cT (100 + k))
theorem rvWo_mono {cT : Nat → ClassId} {ad : List Nat} {ex : Nat → Nat → Nat} (t : List Nat) {aw : rvH} {ws : va_W} (h : rvWo cT ad ex aw ws) : rvWo cT (ad ++ t) ex aw ws :=
  ⟨rvWoo_mono t h.1, fun k hk => by rw [List.getElem?_append_left (List.getElem?_eq_some_iff.mp (h.2 k hk)).1]; exact h.2 k hk⟩
theorem rvWo_get {cT : Nat → ClassId} {ad : List Nat} {ex : Nat → Nat → Nat} {aw : rvH} {ws : va_W} {k : Nat} {c : rvC} (h : rvWo cT ad ex aw ws) (hk : aw[k]? = some c) : ∃ q : Nat × va_E, ws[k]? = some q ∧ rvCe cT ad ex c q.2 := rvWoo_get h.1 hk
theorem rvWo_set {cT : Nat → ClassId} {ad : List Nat} {ex : Nat → Nat → Nat} {aw : rvH} {ws : va_W} {k : Nat} {c : rvC} {q : Nat × va_E} (h : rvWo cT ad ex aw ws) (hc : rvCe cT ad ex c q.2) : rvWo cT ad ex (aw.set k c) (ws.set k q) := ⟨rvWoo_set h.1 hc, h.2⟩
theorem rvWo_push {cT : Nat → ClassId} {ad : List Nat} {ex : Nat → Nat → Nat} {c : rvC} {q : Nat × va_E} {aw : rvH} {ws : va_W} (h : rvWo cT ad ex aw ws) (hc : rvCe cT ad ex c q.2) : rvWo cT ad ex (aw ++ [c]) (ws ++ [q]) := ⟨rvWoo_push h.1 hc, h.2⟩
theorem rvWo_len {cT : Nat → ClassId} {ad : List Nat} {ex : Nat → Nat → Nat} {aw : rvH} {ws : va_W} (h : rvWo cT ad ex aw ws) : aw.length = ws.length := rvWoo_len h.1
def rvCt (cT : Nat → ClassId) (ad : List Nat) : Nat → ClassId := fun n => if n < 99 then cT n else if n = 99 then ad.length else ad.getD (n - 100) 0
theorem rvCe_c {cT cU : Nat → ClassId} {ad : List Nat} {ex : Nat → Nat → Nat} {c : rvC} {e : va_E} (hc : ∀ q, q < 6 → cT q = cU q) (h : rvCe cT ad ex c e) : rvCe cU ad ex c e := by
  rcases c with ⟨ci, fs⟩ | ⟨q, n, d, ov⟩
  · exact h
  · rcases h with ⟨h0, f, h1, h2⟩ | ⟨h0, f, h1⟩ | ⟨h0, f, h1, h2⟩
    · exact Or.inl ⟨h0, f, by rw [← hc q (by omega)]; exact h1, h2⟩
    · exact Or.inr (Or.inl ⟨h0, f, by rw [← hc q (by omega)]; exact h1⟩)
    · exact Or.inr (Or.inr ⟨h0, f, by rw [← hc q (by omega)]; exact h1, h2⟩)
theorem rvWoo_c {cT cU : Nat → ClassId} {ad : List Nat} {ex : Nat → Nat → Nat} (hc : ∀ q, q < 6 → cT q = cU q) : ∀ {aw : rvH} {ws : va_W}, rvWoo cT ad ex aw ws → rvWoo cU ad ex aw ws
  | [], [], _ => trivial
  | w :: vs, [], h => absurd h id
  | [], y :: ys, h => absurd h id
  | w :: vs, y :: ys, h => ⟨rvCe_c hc h.1, rvWoo_c hc h.2⟩
theorem rvCt_c (cT : Nat → ClassId) (ad : List Nat) : ∀ q, q < 6 → cT q = rvCt cT ad q := fun q hq => by
  unfold rvCt
  rw [if_pos (by omega)]
theorem rvWo_in {cT : Nat → ClassId} {ad : List Nat} {ex : Nat → Nat → Nat} {aw : rvH} {ws : va_W} (h : rvWoo cT ad ex aw ws) : rvWo (rvCt cT ad) ad ex aw ws := by
  refine ⟨rvWoo_c (rvCt_c cT ad) h, fun k hk => ?_⟩
  have e1 : rvCt cT ad 99 = ad.length := by simp [rvCt]
  have e2 : rvCt cT ad (100 + k) = ad.getD k 0 := by
    unfold rvCt
    rw [if_neg (by omega), if_neg (by omega), show 100 + k - 100 = k by omega]
  rw [e1] at hk
  rw [e2, List.getD_eq_getElem?_getD, List.getElem?_eq_getElem hk]
  rfl
theorem rvWo_out {cT : Nat → ClassId} {ad ad0 : List Nat} {ex : Nat → Nat → Nat} {aw : rvH} {ws : va_W} (h : rvWo (rvCt cT ad0) ad ex aw ws) : rvWoo cT ad ex aw ws ∧ ∃ t, ad = ad0 ++ t := by
  refine ⟨rvWoo_c (fun q hq => (rvCt_c cT ad0 q hq).symm) h.1, ad.drop ad0.length, ?_⟩
  have e1 : rvCt cT ad0 99 = ad0.length := by simp [rvCt]
  have h2 := h.2
  rw [e1] at h2
  have h3 : ∀ k, k < ad0.length → ad[k]? = ad0[k]? := fun k hk => by
    have e2 : rvCt cT ad0 (100 + k) = ad0.getD k 0 := by
      unfold rvCt
      rw [if_neg (by omega), if_neg (by omega), show 100 + k - 100 = k by omega]
    rw [h2 k hk, e2, List.getD_eq_getElem?_getD, List.getElem?_eq_getElem hk]
    rfl
  have hlen : ad0.length ≤ ad.length := by
    cases hz : ad0.length with
    | zero => exact Nat.zero_le _
    | succ n =>
      have := (List.getElem?_eq_some_iff.mp (h2 n (by omega))).1
      omega
  apply List.ext_getElem?
  intro k
  by_cases hk : k < ad0.length
  · rw [List.getElem?_append_left hk]
    exact h3 k hk
  · rw [List.getElem?_append_right (by omega), List.getElem?_drop]
    congr 1
    omega
/-- the addresses of the places -/
abbrev rvAd (ws : va_W) : List Nat := ws.map (·.1)
theorem rvAd_set {ws : va_W} {k a : Nat} {e0 e : va_E} (h : ws[k]? = some (a, e0)) : rvAd (ws.set k (a, e)) = rvAd ws := by
  apply List.ext_getElem?
  intro i
  simp only [List.getElem?_map, List.getElem?_set]
  by_cases hk : k = i
  · subst hk
    have hl := (List.getElem?_eq_some_iff.mp h).1
    simp [hl, h]
    have := (List.getElem?_eq_some_iff.mp h).2
    rw [this]
  · simp [hk]
theorem rvAd_push {ws : va_W} {q : Nat × va_E} : rvAd (ws ++ [q]) = rvAd ws ++ [q.1] := by simp
theorem rvAd_at {ws : va_W} {k a : Nat} {e : va_E} (h : ws[k]? = some (a, e)) : (rvAd ws)[k]? = some a := by
  simp [List.getElem?_map, h]
/-- a reference is the address of its place -/
theorem rvAd_ref {ws : va_W} {k a q : Nat} {e : va_E} (h : ws[k]? = some (a, e)) (h2 : (rvAd ws)[k]? = some q) : q = a := by
  rw [rvAd_at h] at h2
  exact (Option.some.inj h2).symm
/-! locals -/
def rvLo (ad : List Nat) (ex : Nat → Nat → Nat) (mL : Nat) (al : List rvV) (ls : Array Slot) : Prop :=
  al.length = mL ∧ ∃ l : List (Nat × Value), lv_has ls mL l ∧ ∀ (i : Nat) (v : rvV), al[i]? = some v → (∃ z, v = .inr (9, z)) ∨ ∃ x : Value, (i, x) ∈ l ∧ rvR ad ex v x
theorem rvLo_mono {ad : List Nat} {ex : Nat → Nat → Nat} {mL : Nat} {al : List rvV} {ls : Array Slot} (t : List Nat) (h : rvLo ad ex mL al ls) : rvLo (ad ++ t) ex mL al ls := by
  obtain ⟨h0, l, h1, h2⟩ := h
  refine ⟨h0, l, h1, fun i v hv => ?_⟩
  rcases h2 i v hv with q | ⟨x, q1, q2⟩
  · exact Or.inl q
  · exact Or.inr ⟨x, q1, rvR_mono t q2⟩
theorem rvLo_get {ad : List Nat} {ex : Nat → Nat → Nat} {mL : Nat} {al : List rvV} {ls : Array Slot} {i : Nat} {v : rvV} (h : rvLo ad ex mL al ls) (hv : al[i]? = some v) (hn : ∀ z, v ≠ .inr (9, z)) : ∃ x : Value, ls[i]? = some (.val x) ∧ rvR ad ex v x := by
  obtain ⟨-, l, h1, h2⟩ := h
  rcases h2 i v hv with ⟨z, q⟩ | ⟨x, q1, q2⟩
  · exact absurd q (hn z)
  · exact ⟨x, h1.2.2 (i, x) q1, q2⟩
/-- behind a store of one or two words -/
theorem rvSet_at {al : List rvV} {i j : Nat} {v w : rvV} (hi : i < al.length) (h : (rvSet al i v)[j]? = some w) : (j = i ∧ w = v) ∨ (j ≠ i ∧ ((∃ z, w = .inr (9, z)) ∨ (al[j]? = some w ∧ (j + 1 = i → rvIsL w = false)))) := by
  cases i with
  | zero =>
    have h : (al.set 0 v)[j]? = some w := h
    rw [List.getElem?_set] at h
    by_cases hj : 0 = j
    · subst hj
      simp [hi] at h
      exact Or.inl ⟨rfl, h.symm⟩
    · simp [hj] at h
      exact Or.inr ⟨fun q => hj q.symm, Or.inr ⟨h, fun q => absurd q (Nat.succ_ne_zero j)⟩⟩
  | succ k =>
    have hk : k < al.length := by omega
    have e : al[k]? = some al[k] := List.getElem?_eq_getElem hk
    have h : (match al[k]? with
      | some w => bif rvIsL w then (al.set k rvU).set (k + 1) v else al.set (k + 1) v
      | none => al)[j]? = some w := h
    rw [e] at h
    have h : (bif rvIsL al[k] then (al.set k rvU).set (k + 1) v else al.set (k + 1) v)[j]? = some w := h
    cases hb : rvIsL al[k] with
    | true =>
      rw [hb] at h
      have h : ((al.set k rvU).set (k + 1) v)[j]? = some w := h
      rw [List.getElem?_set, List.getElem?_set] at h
      by_cases hj : k + 1 = j
      · subst hj
        simp [hi] at h
        exact Or.inl ⟨rfl, h.symm⟩
      · by_cases hj2 : k = j
        · subst hj2
          simp [hk] at h
          exact Or.inr ⟨by omega, Or.inl ⟨0, h.symm⟩⟩
        · simp [hj, hj2] at h
          exact Or.inr ⟨fun q => hj q.symm, Or.inr ⟨h, fun q => absurd q (by omega)⟩⟩
    | false =>
      rw [hb] at h
      have h : (al.set (k + 1) v)[j]? = some w := h
      rw [List.getElem?_set] at h
      by_cases hj : k + 1 = j
      · subst hj
        simp [hi] at h
        exact Or.inl ⟨rfl, h.symm⟩
      · have h9 : al[j]? = some w := by simpa [hj] using h
        refine Or.inr ⟨fun q => hj q.symm, Or.inr ⟨h9, fun q => ?_⟩⟩
        have e3 : j = k := by omega
        rw [e3, e] at h9
        rw [← Option.some.inj h9]
        exact hb
theorem rvSet_len (al : List rvV) (i : Nat) (v : rvV) : (rvSet al i v).length = al.length := by
  cases i with
  | zero => simp [rvSet]
  | succ k =>
    cases h : al[k]? with
    | none => simp [rvSet, h]
    | some w =>
      cases hb : rvIsL w with
      | true => simp [rvSet, h, hb]
      | false => simp [rvSet, h, hb]
theorem rvLo_set1 {ad : List Nat} {ex : Nat → Nat → Nat} {mL : Nat} {al : List rvV} {ls' : Array Slot} {l : List (Nat × Value)} {i : Nat} {v : rvV} {x : Value} (h0 : al.length = mL) (hi : i < mL)
    (h2 : ∀ (i : Nat) (v : rvV), al[i]? = some v → (∃ z, v = .inr (9, z)) ∨ ∃ x : Value, (i, x) ∈ l ∧ rvR ad ex v x) (hx : rvR ad ex v x)
    (hl : lv_has ls' mL ((i, x) :: l.filter (fun q => !(q.1 == i) && !(q.1 + 1 == i && q.2.category == 2)))) : rvLo ad ex mL (rvSet al i v) ls' := by
  refine ⟨by rw [rvSet_len]; exact h0, _, hl, fun j w hw => ?_⟩
  rcases rvSet_at (by omega) hw with ⟨rfl, rfl⟩ | ⟨hj, q | ⟨q1, q2⟩⟩
  · exact Or.inr ⟨x, List.mem_cons_self, hx⟩
  · exact Or.inl q
  · rcases h2 j w q1 with q | ⟨y, q3, q4⟩
    · exact Or.inl q
    · refine Or.inr ⟨y, List.mem_cons_of_mem _ (List.mem_filter.mpr ⟨q3, ?_⟩), q4⟩
      have hc := rvR_cat q4
      by_cases hji : j + 1 = i
      · rw [q2 hji] at hc
        have hc : y.category = 1 := hc
        simp [hj, hc]
      · simp [hj, hji]
theorem rvLo_set2 {ad : List Nat} {ex : Nat → Nat → Nat} {mL : Nat} {al : List rvV} {ls' : Array Slot} {l : List (Nat × Value)} {i : Nat} {v : rvV} {x : Value} (h0 : al.length = mL) (hi : i + 1 < mL)
    (h2 : ∀ (i : Nat) (v : rvV), al[i]? = some v → (∃ z, v = .inr (9, z)) ∨ ∃ x : Value, (i, x) ∈ l ∧ rvR ad ex v x) (hx : rvR ad ex v x)
    (hl : lv_has ls' mL ((i, x) :: l.filter (fun q => !(q.1 == i) && (!(q.1 == i + 1) && !(q.1 + 1 == i && q.2.category == 2))))) : rvLo ad ex mL ((rvSet al i v).set (i + 1) rvU) ls' := by
  refine ⟨by rw [List.length_set, rvSet_len]; exact h0, _, hl, fun j w hw => ?_⟩
  rw [List.getElem?_set] at hw
  by_cases hj1 : i + 1 = j
  · subst hj1
    have e : i + 1 < (rvSet al i v).length := by rw [rvSet_len]; omega
    simp [e] at hw
    exact Or.inl ⟨0, hw.symm⟩
  · simp [hj1] at hw
    rcases rvSet_at (by omega) hw with ⟨rfl, rfl⟩ | ⟨hj, q | ⟨q1, q2⟩⟩
    · exact Or.inr ⟨x, List.mem_cons_self, hx⟩
    · exact Or.inl q
    · rcases h2 j w q1 with q | ⟨y, q3, q4⟩
      · exact Or.inl q
      · refine Or.inr ⟨y, List.mem_cons_of_mem _ (List.mem_filter.mpr ⟨q3, ?_⟩), q4⟩
        have hc := rvR_cat q4
        have hj2 : ¬ j = i + 1 := fun q => hj1 q.symm
        by_cases hji : j + 1 = i
        · rw [q2 hji] at hc
          have hc : y.category = 1 := hc
          simp [hj, hj2, hc]
        · simp [hj, hj2, hji]
/-- a method's locals at its start -/
theorem rvEnt_ok {ad : List Nat} {ex : Nat → Nat → Nat} : ∀ {as : List rvV} {xs : List Value}, rvRs ad ex as xs → (lg_sl xs).length = rvLen (rvEnt as) ∧ ∀ (k : Nat) (i : Nat) (v : rvV), (rvEnt as)[i]? = some v → (∃ z, v = .inr (9, z)) ∨ ∃ x : Value, (k + i, x) ∈ lv_args k xs ∧ rvR ad ex v x
  | [], [], _ => ⟨rfl, fun k i v h => by simp [rvEnt] at h⟩
  | w :: vs, [], h => absurd h id
  | [], y :: ys, h => absurd h id
  | w :: vs, y :: ys, h => by
      obtain ⟨e1, e2⟩ := rvEnt_ok h.2
      have hc := rvR_cat h.1
      cases hb : rvIsL w with
      | true =>
        rw [hb] at hc
        have hc : y.category = 2 := hc
        have ee : rvEnt (w :: vs) = w :: rvU :: rvEnt vs := by simp [rvEnt, hb]
        have ea : ∀ k, lv_args k (y :: ys) = (k, y) :: lv_args (k + 2) ys := fun k => by simp [lv_args, hc]
        rw [ee]
        refine ⟨?_, fun k i v hv => ?_⟩
        · have : (lg_sl (y :: ys)).length = (lg_sl ys).length + 2 := by simp [lg_sl, hc]
          rw [this, e1]
          simp [rvLen]
        · rw [ea]
          match i, hv with
          | 0, hv => exact Or.inr ⟨y, List.mem_cons_self, by
              have e : w = v := by simpa using hv
              rw [← e]; exact h.1⟩
          | 1, hv => exact Or.inl ⟨0, by
              have e : rvU = v := by simpa using hv
              rw [← e]; rfl⟩
          | i + 2, hv =>
            rcases e2 (k + 2) i v (by simpa using hv) with q | ⟨x, q1, q2⟩
            · exact Or.inl q
            · exact Or.inr ⟨x, List.mem_cons_of_mem _ (by rw [show k + (i + 2) = k + 2 + i by omega]; exact q1), q2⟩
      | false =>
        rw [hb] at hc
        have hc : y.category = 1 := hc
        have ee : rvEnt (w :: vs) = w :: rvEnt vs := by simp [rvEnt, hb]
        have ea : ∀ k, lv_args k (y :: ys) = (k, y) :: lv_args (k + 1) ys := fun k => by simp [lv_args, hc]
        rw [ee]
        refine ⟨?_, fun k i v hv => ?_⟩
        · have : (lg_sl (y :: ys)).length = (lg_sl ys).length + 1 := by simp [lg_sl, hc]
          rw [this, e1]
          simp [rvLen]
        · rw [ea]
          match i, hv with
          | 0, hv => exact Or.inr ⟨y, List.mem_cons_self, by
              have e : w = v := by simpa using hv
              rw [← e]; exact h.1⟩
          | i + 1, hv =>
            rcases e2 (k + 1) i v (by simpa using hv) with q | ⟨x, q1, q2⟩
            · exact Or.inl q
            · exact Or.inr ⟨x, List.mem_cons_of_mem _ (by rw [show k + (i + 1) = k + 1 + i by omega]; exact q1), q2⟩
theorem rvLen_eq (l : List rvV) : rvLen l = l.length := by
  induction l with
  | nil => rfl
  | cons a t ih => simp [rvLen, ih]
theorem rvLo_entry {ad : List Nat} {ex : Nat → Nat → Nat} {as : List rvV} {xs : List Value} {mL : Nat} (h : rvRs ad ex as xs) (hm : rvLen (rvEnt as) ≤ mL) :
    rvLo ad ex mL (rvEnt as ++ List.replicate (mL - rvLen (rvEnt as)) rvU) (lg_sl xs ++ List.replicate (mL - (lg_sl xs).length) Slot.unset).toArray := by
  obtain ⟨e1, e2⟩ := rvEnt_ok h
  refine ⟨by rw [List.length_append, List.length_replicate, ← rvLen_eq]; omega, _, lv_entry xs (by omega), fun i v hv => ?_⟩
  by_cases hi : i < (rvEnt as).length
  · rw [List.getElem?_append_left hi] at hv
    rcases e2 0 i v hv with q | ⟨x, q1, q2⟩
    · exact Or.inl q
    · exact Or.inr ⟨x, by rw [Nat.zero_add] at q1; exact q1, q2⟩
  · rw [List.getElem?_append_right (by omega)] at hv
    have := List.mem_of_getElem? hv
    exact Or.inl ⟨0, List.eq_of_mem_replicate this⟩
/-! fields -/
theorem rvFit_ok {ad : List Nat} {ex : Nat → Nat → Nat} {ty : FieldType} {v : rvV} {x : Value} (h : rvFit ty v = true) (hx : rvR ad ex v x) : narrow ty x = x ∧ fits ty x = true := by
  have small : ∀ (n : Int32), 0 ≤ n.toInt → n.toInt ≤ 1 → n = 0 ∨ n = 1 := fun n h1 h2 => by
    rcases (show n.toInt = 0 ∨ n.toInt = 1 by omega) with q | q
    · exact Or.inl (Int32.toInt_inj.mp q)
    · exact Or.inr (Int32.toInt_inj.mp q)
  cases ty with
  | int =>
    rcases v with a | ⟨t, k⟩
    · obtain ⟨n, rfl, -⟩ := hx
      exact ⟨rfl, rfl⟩
    · match t, h with
      | 0, h => cases h
      | 1, h => cases h
      | 2, h => cases h
      | n + 3, h => cases h
  | boolean =>
    rcases v with a | ⟨t, k⟩
    · obtain ⟨n, rfl, h1, h2⟩ := hx
      obtain ⟨g1, g2⟩ := rv_and h
      have g1 := of_decide_eq_true g1
      have g2 := of_decide_eq_true g2
      rcases small n (by omega) (by omega) with rfl | rfl
      · exact ⟨rfl, rfl⟩
      · exact ⟨rfl, rfl⟩
    · match t, h with
      | 0, h => cases h
      | 1, h => cases h
      | 2, h => cases h
      | n + 3, h => cases h
  | byte =>
    rcases v with a | ⟨t, k⟩
    · obtain ⟨n, rfl, h1, h2⟩ := hx
      obtain ⟨g1, g2⟩ := rv_and h
      have g1 := of_decide_eq_true g1
      have g2 := of_decide_eq_true g2
      refine ⟨?_, ?_⟩
      · show Value.int n.toInt8.toInt32 = .int n
        congr 1
        apply Int32.toInt_inj.mp
        rw [Int8.toInt_toInt32, Int32.toInt_toInt8]
        exact Int.bmod_eq_of_le (by omega) (by omega)
      · show (decide (-128 ≤ n) && decide (n ≤ 127)) = true
        rw [Bool.and_eq_true, decide_eq_true_eq, decide_eq_true_eq, Int32.le_iff_toInt_le, Int32.le_iff_toInt_le]
        exact ⟨show (-128 : Int) ≤ n.toInt by omega, show n.toInt ≤ 127 by omega⟩
    · match t, h with
      | 0, h => cases h
      | 1, h => cases h
      | 2, h => cases h
      | n + 3, h => cases h
  | char =>
    rcases v with a | ⟨t, k⟩
    · obtain ⟨n, rfl, h1, h2⟩ := hx
      obtain ⟨g1, g2⟩ := rv_and h
      have g1 := of_decide_eq_true g1
      have g2 := of_decide_eq_true g2
      have e : ∃ q : Nat, q < 65536 ∧ n = nI q := by
        refine ⟨n.toInt.toNat, by omega, ?_⟩
        apply Int32.toInt_inj.mp
        rw [nI_toInt (by omega)]
        omega
      obtain ⟨q, hq, rfl⟩ := e
      exact pk_charN hq
    · match t, h with
      | 0, h => cases h
      | 1, h => cases h
      | 2, h => cases h
      | n + 3, h => cases h
  | long =>
    rcases v with a | ⟨t, k⟩
    · cases h
    · match t, h, hx with
      | 0, h, _ => cases h
      | 1, h, hx => obtain ⟨n, rfl⟩ := hx; exact ⟨rfl, rfl⟩
      | 2, h, _ => cases h
      | n + 3, h, _ => cases h
  | object C =>
    rcases v with a | ⟨t, k⟩
    · cases h
    · match t, h, hx with
      | 0, h, hx => cases hx; exact ⟨rfl, rfl⟩
      | 1, h, _ => cases h
      | 2, h, hx => obtain ⟨q, -, rfl⟩ := hx; exact ⟨rfl, rfl⟩
      | n + 3, h, _ => cases h
  | array C =>
    rcases v with a | ⟨t, k⟩
    · cases h
    · match t, h, hx with
      | 0, h, hx => cases hx; exact ⟨rfl, rfl⟩
      | 1, h, _ => cases h
      | 2, h, hx => obtain ⟨q, -, rfl⟩ := hx; exact ⟨rfl, rfl⟩
      | n + 3, h, _ => cases h
  | short =>
    rcases v with a | ⟨t, k⟩
    · cases h
    · match t, h with
      | 0, h => cases h
      | 1, h => cases h
      | 2, h => cases h
      | n + 3, h => cases h
  | float =>
    rcases v with a | ⟨t, k⟩
    · cases h
    · match t, h with
      | 0, h => cases h
      | 1, h => cases h
      | 2, h => cases h
      | n + 3, h => cases h
  | double =>
    rcases v with a | ⟨t, k⟩
    · cases h
    · match t, h with
      | 0, h => cases h
      | 1, h => cases h
      | 2, h => cases h
      | n + 3, h => cases h
end
section
/-- the words that every method is given -/
def rvWl : List Cond := lw_tbl.filter goodWord
def rvNl : List Cond := lw_tbl.filter (fun w => match w with
  | .methodLinkNest _ _ _ _ => true
  | _ => false)
theorem rvWl_good : ∀ w ∈ rvWl, goodWord w = true := fun w h => (List.mem_filter.mp h).2
def rvW (i : Nat) (w : Cond) : Bool := decide (lw_tbl[i]? = some w) && goodWord w
theorem rvW_ok {i : Nat} {w : Cond} (h : rvW i w = true) : w ∈ rvWl := by
  obtain ⟨h1, h2⟩ := rv_and h
  exact List.mem_filter.mpr ⟨List.mem_of_getElem? (of_decide_eq_true h1), h2⟩
def rvTy : Nat → Nat → FieldType := fun n => (bif Nat.ble 6 n then (bif Nat.ble 9 n then (bif Nat.ble 11 n then (bif Nat.ble 12 n then (bif Nat.beq n 12 then tyX12 else (fun _ => .int)) else (bif Nat.beq n 11 then tyX11 else (fun _ => .int))) else (bif Nat.ble 10 n then (bif Nat.beq n 10 then tyX10 else (fun _ => .int)) else (bif Nat.beq n 9 then tyX9 else (fun _ => .int)))) else (bif Nat.ble 7 n then (bif Nat.ble 8 n then (bif Nat.beq n 8 then tyX8 else (fun _ => .int)) else (bif Nat.beq n 7 then tyX7 else (fun _ => .int))) else (bif Nat.beq n 6 then tyX6 else (fun _ => .int)))) else (bif Nat.ble 3 n then (bif Nat.ble 4 n then (bif Nat.ble 5 n then (bif Nat.beq n 5 then tyX5 else (fun _ => .int)) else (bif Nat.beq n 4 then tyX4 else (fun _ => .int))) else (bif Nat.beq n 3 then tyX3 else (fun _ => .int))) else (bif Nat.ble 1 n then (bif Nat.ble 2 n then (bif Nat.beq n 2 then tyX2 else (fun _ => .int)) else (bif Nat.beq n 1 then tyX1 else (fun _ => .int))) else (bif Nat.beq n 0 then tyX0 else (fun _ => .int)))))
def rvNf : Nat → Nat := fun n => (bif Nat.ble 6 n then (bif Nat.ble 9 n then (bif Nat.ble 11 n then (bif Nat.ble 12 n then (bif Nat.beq n 12 then 55 else 0) else (bif Nat.beq n 11 then 15 else 0)) else (bif Nat.ble 10 n then (bif Nat.beq n 10 then 8 else 0) else (bif Nat.beq n 9 then 15 else 0))) else (bif Nat.ble 7 n then (bif Nat.ble 8 n then (bif Nat.beq n 8 then 5 else 0) else (bif Nat.beq n 7 then 4 else 0)) else (bif Nat.beq n 6 then 5 else 0))) else (bif Nat.ble 3 n then (bif Nat.ble 4 n then (bif Nat.ble 5 n then (bif Nat.beq n 5 then 10 else 0) else (bif Nat.beq n 4 then 2 else 0)) else (bif Nat.beq n 3 then 2 else 0)) else (bif Nat.ble 1 n then (bif Nat.ble 2 n then (bif Nat.beq n 2 then 11 else 0) else (bif Nat.beq n 1 then 3 else 0)) else (bif Nat.beq n 0 then 9 else 0))))
def rvCn : Nat → String := fun n => (bif Nat.ble 6 n then (bif Nat.ble 9 n then (bif Nat.ble 11 n then (bif Nat.ble 12 n then (bif Nat.beq n 12 then RX12 else "") else (bif Nat.beq n 11 then RX11 else "")) else (bif Nat.ble 10 n then (bif Nat.beq n 10 then RX10 else "") else (bif Nat.beq n 9 then RX9 else ""))) else (bif Nat.ble 7 n then (bif Nat.ble 8 n then (bif Nat.beq n 8 then RX8 else "") else (bif Nat.beq n 7 then RX7 else "")) else (bif Nat.beq n 6 then RX6 else ""))) else (bif Nat.ble 3 n then (bif Nat.ble 4 n then (bif Nat.ble 5 n then (bif Nat.beq n 5 then RX5 else "") else (bif Nat.beq n 4 then RX4 else "")) else (bif Nat.beq n 3 then RX3 else "")) else (bif Nat.ble 1 n then (bif Nat.ble 2 n then (bif Nat.beq n 2 then RX2 else "") else (bif Nat.beq n 1 then RX1 else "")) else (bif Nat.beq n 0 then RX0 else ""))))
def rvFt : Nat → u_T := fun n => (bif Nat.ble 6 n then (bif Nat.ble 9 n then (bif Nat.ble 11 n then (bif Nat.ble 12 n then (bif Nat.beq n 12 then TX12 else (fun _ => ("", "", "", false))) else (bif Nat.beq n 11 then TX11 else (fun _ => ("", "", "", false)))) else (bif Nat.ble 10 n then (bif Nat.beq n 10 then TX10 else (fun _ => ("", "", "", false))) else (bif Nat.beq n 9 then TX9 else (fun _ => ("", "", "", false))))) else (bif Nat.ble 7 n then (bif Nat.ble 8 n then (bif Nat.beq n 8 then TX8 else (fun _ => ("", "", "", false))) else (bif Nat.beq n 7 then TX7 else (fun _ => ("", "", "", false)))) else (bif Nat.beq n 6 then TX6 else (fun _ => ("", "", "", false))))) else (bif Nat.ble 3 n then (bif Nat.ble 4 n then (bif Nat.ble 5 n then (bif Nat.beq n 5 then TX5 else (fun _ => ("", "", "", false))) else (bif Nat.beq n 4 then TX4 else (fun _ => ("", "", "", false)))) else (bif Nat.beq n 3 then TX3 else (fun _ => ("", "", "", false)))) else (bif Nat.ble 1 n then (bif Nat.ble 2 n then (bif Nat.beq n 2 then TX2 else (fun _ => ("", "", "", false))) else (bif Nat.beq n 1 then TX1 else (fun _ => ("", "", "", false)))) else (bif Nat.beq n 0 then TX0 else (fun _ => ("", "", "", false))))))
def rvTxt : List Int := [115, 116, 114, 101, 101, 116, 32, 116, 114, 97, 109, 32, 112, 101, 114, 115, 111, 110, 32, 109, 97, 114, 107, 32, 114, 105, 100, 101, 115, 32, 104, 97, 115, 32, 104, 97, 116, 101, 115, 32, 109, 97, 110, 32, 119, 111, 109, 97, 110, 32, 97, 119, 97, 121, 32, 103, 101, 116, 115, 32, 108, 111, 115, 101, 115, 32, 109, 111, 118, 101, 115, 32, 108, 101, 97, 118, 101, 115, 32, 99, 111, 109, 101, 115, 32, 121, 101, 97, 114, 32, 111, 114, 32, 97, 110, 100, 32, 110, 111, 116, 32, 105, 110, 32, 109, 105, 110, 100, 115, 32, 109, 97, 114, 107, 115, 32, 110, 117, 109, 98, 101, 114, 32]
def rvTyOk (ty : FieldType) : Bool := match ty with
  | .int => true
  | .boolean => true
  | .long => true
  | .object _ => true
  | .array _ => true
  | _ => false
def rvClOk (ci : Nat) (ps : List Nat) (i1 i2 : Nat) : Bool := rvW i1 (.instantiable (rvCn ci) (rvNf ci)) && (rvW i2 (.initialized (rvCn ci)) && (decide (u_ws (rvCn ci) (rvFt ci) (rvNf ci) = ps.filterMap (fun i => lw_tbl[i]?)) && ((u_ws (rvCn ci) (rvFt ci) (rvNf ci)).all goodWord && ((List.range (rvNf ci)).all fun k => rvTyOk (rvTy ci k) && decide (parseFieldDescriptor (rvFt ci k).2.2.1 = some (rvTy ci k))))))
def rvClP (ci : Nat) : Prop := Cond.instantiable (rvCn ci) (rvNf ci) ∈ rvWl ∧ Cond.initialized (rvCn ci) ∈ rvWl ∧ (∀ w ∈ u_ws (rvCn ci) (rvFt ci) (rvNf ci), w ∈ rvWl) ∧ (∀ k, k < rvNf ci → rvTyOk (rvTy ci k) = true ∧ parseFieldDescriptor (rvFt ci k).2.2.1 = some (rvTy ci k))
theorem rvCl_of {ci i1 i2 : Nat} {ps : List Nat} (h : rvClOk ci ps i1 i2 = true) : rvClP ci := by
  obtain ⟨h1, h⟩ := rv_and h
  obtain ⟨h2, h⟩ := rv_and h
  obtain ⟨h3, h⟩ := rv_and h
  obtain ⟨h4, h5⟩ := rv_and h
  have e := of_decide_eq_true h3
  refine ⟨rvW_ok h1, rvW_ok h2, fun w hw => ?_, fun k hk => ?_⟩
  · have g := List.all_eq_true.mp h4 w hw
    rw [e] at hw
    obtain ⟨i, -, hi⟩ := List.mem_filterMap.mp hw
    exact List.mem_filter.mpr ⟨List.mem_of_getElem? hi, g⟩
  · obtain ⟨g1, g2⟩ := rv_and (List.all_eq_true.mp h5 k (List.mem_range.mpr hk))
    exact ⟨g1, of_decide_eq_true g2⟩
theorem rvCl_0 : rvClP 0 := rvCl_of (ps := [327, 329, 331, 333, 335, 337, 339, 341, 343]) (i1 := 313) (i2 := 128) (by decide +kernel)
theorem rvCl_1 : rvClP 1 := rvCl_of (ps := [285, 287, 289]) (i1 := 277) (i2 := 126) (by decide +kernel)
theorem rvCl_2 : rvClP 2 := rvCl_of (ps := [515, 517, 519, 521, 523, 525, 527, 529, 531, 533, 535]) (i1 := 475) (i2 := 133) (by decide +kernel)
theorem rvCl_3 : rvClP 3 := rvCl_of (ps := [548, 550]) (i1 := 539) (i2 := 134) (by decide +kernel)
theorem rvCl_4 : rvClP 4 := rvCl_of (ps := [421, 423]) (i1 := 412) (i2 := 131) (by decide +kernel)
theorem rvCl_5 : rvClP 5 := rvCl_of (ps := [366, 368, 370, 372, 374, 376, 378, 380, 382, 384]) (i1 := 347) (i2 := 129) (by decide +kernel)
theorem rvCl_6 : rvClP 6 := rvCl_of (ps := [899, 901, 903, 905, 907]) (i1 := 889) (i2 := 144) (by decide +kernel)
theorem rvCl_7 : rvClP 7 := rvCl_of (ps := [303, 305, 307, 309]) (i1 := 294) (i2 := 127) (by decide +kernel)
theorem rvCl_8 : rvClP 8 := rvCl_of (ps := [400, 402, 404, 406, 408]) (i1 := 388) (i2 := 130) (by decide +kernel)
theorem rvCl_9 : rvClP 9 := rvCl_of (ps := [238, 240, 242, 244, 246, 248, 250, 252, 254, 256, 258, 260, 262, 264, 266]) (i1 := 154) (i2 := 121) (by decide +kernel)
theorem rvCl_10 : rvClP 10 := rvCl_of (ps := [458, 460, 462, 464, 466, 468, 470, 472]) (i1 := 427) (i2 := 132) (by decide +kernel)
theorem rvCl_11 : rvClP 11 := rvCl_of (ps := [568, 570, 572, 574, 576, 578, 580, 582, 584, 586, 588, 590, 592, 594, 596]) (i1 := 146) (i2 := 120) (by decide +kernel)
theorem rvCl_12 : rvClP 12 := rvCl_of (ps := [1490, 1492, 1494, 1496, 1498, 1500, 1502, 1504, 1506, 1508, 1510, 1512, 1514, 1516, 1518, 1520, 1522, 1524, 1526, 1528, 1530, 1532, 1534, 1536, 1538, 1540, 1542, 1544, 1546, 1548, 1550, 1552, 1554, 1556, 1558, 1560, 1562, 1564, 1566, 1568, 1570, 1572, 1574, 1576, 1578, 1580, 1582, 1584, 1586, 1588, 1590, 1592, 1594, 1596, 1598]) (i1 := 1401) (i2 := 135) (by decide +kernel)
theorem rvCl (ci : Nat) (h : ci < 13) : rvClP ci ∧ vwCl[ci]? = some (rvCn ci, rvFt ci, rvNf ci) ∧ ∀ a, a < rvNf ci → ∀ b, b < rvNf ci → a ≠ b → (rvFt ci a).2.1 ≠ (rvFt ci b).2.1 := by
  match ci, h with
  | 0, _ => exact ⟨rvCl_0, rfl, nmX0⟩
  | 1, _ => exact ⟨rvCl_1, rfl, nmX1⟩
  | 2, _ => exact ⟨rvCl_2, rfl, nmX2⟩
  | 3, _ => exact ⟨rvCl_3, rfl, nmX3⟩
  | 4, _ => exact ⟨rvCl_4, rfl, nmX4⟩
  | 5, _ => exact ⟨rvCl_5, rfl, nmX5⟩
  | 6, _ => exact ⟨rvCl_6, rfl, nmX6⟩
  | 7, _ => exact ⟨rvCl_7, rfl, nmX7⟩
  | 8, _ => exact ⟨rvCl_8, rfl, nmX8⟩
  | 9, _ => exact ⟨rvCl_9, rfl, nmX9⟩
  | 10, _ => exact ⟨rvCl_10, rfl, nmX10⟩
  | 11, _ => exact ⟨rvCl_11, rfl, nmX11⟩
  | 12, _ => exact ⟨rvCl_12, rfl, nmX12⟩
  | n + 13, h => exact absurd h (by omega)
theorem rvCl_none {ci : Nat} (h : ¬ ci < 13) : vwCl[ci]? = none := List.getElem?_eq_none (by simp; omega)
end
section
/-- what stands outside the run's own cells: links among nest mates, classes of rows, the one text, two statics -/
def rvText : String := "street tram person mark rides has hates man woman away gets loses moves leaves comes year or and not in minds marks number "
def rvKx (ex : Nat → Nat → Nat) (A : Nat → Prop) (U : State) (H : Heap) : Prop :=
  (∀ w ∈ rvNl, va_Nw w U) ∧ va_AO RX2 U ∧ va_AO RX6 U ∧ vk_R RX9 32 rvText (ex 3 0) U ∧ vk_S 1 [rvTxt.length] [rvTxt.map Int32.ofInt] (fun _ => ex 3 0) (fun _ => ex 4 0) A U H ∧
  va_Z "java/lang/String" "COMPACT_STRINGS" "Z" (.int 1) A U H ∧ va_Zq "jdk/internal/util/Preconditions" "SIOOBE_FORMATTER" "Ljava/util/function/BiFunction;" A U H
theorem rvNl_warm {w : Cond} (hw : w ∈ rvNl) {s U : State} (hW : s.WarmedH U.vm) (h : va_Nw w s) : va_Nw w U := by
  have h2 := (List.mem_filter.mp hw).2
  cases w <;> first | exact va_Nw.warmM hW h | cases h2
theorem rvNl_same {w : Cond} (hw : w ∈ rvNl) {u U : State} (hv : u.vm = U.vm) (h : va_Nw w u) : va_Nw w U := by
  have h2 := (List.mem_filter.mp hw).2
  cases w <;> first | exact va_Nw.same rfl hv h | cases h2
theorem rvKx_warm {ex : Nat → Nat → Nat} {A : Nat → Prop} {u U : State} {H : Heap} (hW : u.WarmedH U.vm) (h : rvKx ex A u H) : rvKx ex A U H := by
  obtain ⟨h1, h2, h3, h4, h5, h6, h7⟩ := h
  exact ⟨fun w hw => rvNl_warm hw hW (h1 w hw), va_AO.moved hW.alike h2, va_AO.moved hW.alike h3, vk_R.warm hW h4, vk_S.moved hW.alike h5, va_Z.moved hW.alike h6, va_Zq.moved hW.alike h7⟩
theorem rvKx_same {ex : Nat → Nat → Nat} {A : Nat → Prop} {u U : State} {H : Heap} (hv : u.vm = U.vm) (h : rvKx ex A u H) : rvKx ex A U H := by
  obtain ⟨h1, h2, h3, h4, h5, h6, h7⟩ := h
  have hal : u.vm.Alike U.vm := by rw [hv]; exact Vm.Alike.refl _
  exact ⟨fun w hw => rvNl_same hw hv (h1 w hw), va_AO.moved hal h2, va_AO.moved hal h3, vk_R.same hv.symm h4, vk_S.moved hal h5, va_Z.moved hal h6, va_Zq.moved hal h7⟩
theorem rvKx_kept {ex : Nat → Nat → Nat} {A : Nat → Prop} {U : State} {H H1 : Heap} (h : rvKx ex A U H) (hq : ∀ a : Nat, a < H.size → ¬ A a → H1[a]? = H[a]?) : rvKx ex A U H1 := by
  obtain ⟨h1, h2, h3, h4, h5, h6, h7⟩ := h
  exact ⟨h1, h2, h3, h4, vk_S.kept h5 hq, va_Z.kept h6 hq, va_Zq.kept h7 hq⟩
theorem rvKx_narrow {ex : Nat → Nat → Nat} {A B : Nat → Prop} {U : State} {H : Heap} (h : rvKx ex A U H) (hAB : ∀ q, B q → A q) : rvKx ex B U H := by
  obtain ⟨h1, h2, h3, h4, h5, h6, h7⟩ := h
  exact ⟨h1, h2, h3, h4, vk_S.narrow h5 hAB, va_Z.narrow h6 hAB, va_Zq.narrow h7 hAB⟩
def rvTys (cT : Nat → ClassId) : List (ClassId × FieldType) := [(cT 0, .int), (cT 1, .byte), (cT 2, .boolean), (cT 3, .long), (cT 4, .object RX2), (cT 5, .object RX6)]
/-- the script, and what is known of its numbers -/
def rvSx (ex : Nat → Nat → Nat) (A : Nat → Prop) (s : State) (sc : List (Int × Int)) : Prop :=
  sc = [] ∨ ∃ xs : Nat → Int32, va_X (ex 5 0) sc.length xs s s.heap ∧ ex 5 0 < s.heap.size ∧ ¬ A (ex 5 0) ∧ ∀ (j : Nat) (a : Int × Int), sc[j]? = some a → a.1 ≤ (xs j).toInt ∧ (xs j).toInt ≤ a.2
def rvCx (p : Program) (s : State) (m : MethodId) (args : Array Value) (meth : Method) (c : Code) (cc : ByteArray) (own : String) (mL : Nat) (D : va_G) (cT : Nat → ClassId) (ex : Nat → Nat → Nat) (A : Nat → Prop) (ini : Bool) (sc : List (Int × Int)) : Prop :=
  p.tables.exec = Jvm.exec ∧ c.code = cc ∧ c.maxLocals = mL ∧ s.vm.findClass own = some m.cls ∧ (∀ w ∈ rvWl, w.before args s = true) ∧ va_K D vwCl (rvTys cT) s ∧ (∀ q, s.heap.size ≤ q → A q) ∧ rvKx ex A s s.heap ∧ (ini = true → meth.name = "<init>") ∧ rvSx ex A s sc
/-- from every state that a run's state tells of, the machine comes to Q -/
def rvG (p : Program) (l : Launch) (e : Env) (R : Room) (s : State) (m : MethodId) (args : Array Value) (below : List Frame) (meth : Method) (c : Code) (Q : State → Prop) (D : va_G) (cT : Nat → ClassId) (ex : Nat → Nat → Nat) (A : Nat → Prop) (mL : Nat) (o : rvS) : Prop :=
  ∀ (ws : va_W) (H : Heap) (locs : List Loc) (ls : Array Slot) (stk : List Value), rvWo cT (rvAd ws) ex o.2.2.2.1 ws → rvLo (rvAd ws) ex mL o.2.1 ls → rvRs (rvAd ws) ex o.2.2.1 stk → va_P D vwCl ws H → va_D A ws → va_S A s.heap H locs →
    W p l e R s m args below meth c H locs o.2.2.2.2.1 o.2.2.2.2.2 Q (F0 m o.1 ls stk)
/-- an instruction's length -/
def rvSz (i : Instr) (len : Nat) : Nat := match i with
  | .bipush _ => 2
  | .sipush _ => 3
  | .ldc _ => 2
  | .ldc2_w _ => 3
  | .iload _ => 2
  | .lload _ => 2
  | .aload _ => 2
  | .istore _ => 2
  | .lstore _ => 2
  | .astore _ => 2
  | .iinc _ _ => 3
  | .if_icmp _ _ => 3
  | .ifCond _ _ => 3
  | .ifnull _ => 3
  | .ifnonnull _ => 3
  | .goto _ => 3
  | .tableswitch _ _ _ _ => len
  | .getfield _ => 3
  | .putfield _ => 3
  | .getstatic _ => 3
  | .new _ => 3
  | .newarray _ => 2
  | .anewarray _ => 3
  | .invokevirtual _ => 3
  | .invokespecial _ => 3
  | .invokestatic _ => 3
  | _ => 1
/-- what an instruction that calls nothing links to is what its numbers say -/
def rvAux (own : String) (ini : Bool) (i : Instr) (a1 a2 wi : Nat) : Bool := match i with
  | .getfield idx => bif Nat.beq a1 100 then (bif Nat.beq a2 0 then rvW wi (.fieldLink own idx "java/lang/String" "value" "[B") else rvW wi (.fieldLink own idx "java/lang/String" "coder" "B"))
    else Nat.blt a1 13 && (Nat.blt a2 (rvNf a1) && rvW wi (.fieldLink own idx (rvFt a1 a2).1 (rvFt a1 a2).2.1 (rvFt a1 a2).2.2.1))
  | .putfield idx => Nat.blt a1 13 && (Nat.blt a2 (rvNf a1) && (rvW wi (.fieldLink own idx (rvFt a1 a2).1 (rvFt a1 a2).2.1 (rvFt a1 a2).2.2.1) && (!(rvFt a1 a2).2.2.2 || (ini && decide ((rvFt a1 a2).1 = own)))))
  | .getstatic idx => bif Nat.beq a1 0 then rvW wi (.fieldLink own idx "java/lang/String" "COMPACT_STRINGS" "Z") else rvW wi (.fieldLink own idx "jdk/internal/util/Preconditions" "SIOOBE_FORMATTER" "Ljava/util/function/BiFunction;")
  | .new idx => Nat.blt a1 13 && rvW wi (.classLink own idx (rvCn a1))
  | .newarray t => rvW wi (.arrayClass (newarray.typeOf t)) && (match t with
    | .int => Nat.beq a1 0
    | .byte => Nat.beq a1 1
    | .boolean => Nat.beq a1 2
    | .long => Nat.beq a1 3
    | _ => false)
  | .anewarray idx => bif Nat.beq a1 4 then rvW wi (.classLink own idx RX2) else Nat.beq a1 5 && rvW wi (.classLink own idx RX6)
  | .ldc2_w idx => (match lw_tbl[wi]? with
    | some (.constantLong ow k v) => decide (ow = own) && (Nat.beq k idx && goodWord (.constantLong ow k v))
    | _ => false)
  | .ldc idx => decide (own = RX9) && Nat.beq idx 32
  | _ => true
theorem rvC_eq {a b : Int × Int} {x y : Int32} {r : Bool} (h : rvCmp .eq a b = some r) (h1 : a.1 ≤ x.toInt) (h2 : x.toInt ≤ a.2) (h3 : b.1 ≤ y.toInt) (h4 : y.toInt ≤ b.2) : (x = y) ↔ r = true := rvEq_ok h h1 h2 h3 h4
theorem rvC_ne {a b : Int × Int} {x y : Int32} {r : Bool} (h : rvCmp .ne a b = some r) (h1 : a.1 ≤ x.toInt) (h2 : x.toInt ≤ a.2) (h3 : b.1 ≤ y.toInt) (h4 : y.toInt ≤ b.2) : (¬ x = y) ↔ r = true := by
  have g := rvEq_ok (rvNo_ok h) h1 h2 h3 h4
  rw [g]
  cases r <;> simp
theorem rvC_lt {a b : Int × Int} {x y : Int32} {r : Bool} (h : rvCmp .lt a b = some r) (h1 : a.1 ≤ x.toInt) (h2 : x.toInt ≤ a.2) (h3 : b.1 ≤ y.toInt) (h4 : y.toInt ≤ b.2) : (x < y) ↔ r = true := rvLt_ok h h1 h2 h3 h4
theorem rvC_ge {a b : Int × Int} {x y : Int32} {r : Bool} (h : rvCmp .ge a b = some r) (h1 : a.1 ≤ x.toInt) (h2 : x.toInt ≤ a.2) (h3 : b.1 ≤ y.toInt) (h4 : y.toInt ≤ b.2) : (y ≤ x) ↔ r = true := by
  have g := rvLt_ok (rvNo_ok h) h1 h2 h3 h4
  rw [Int32.lt_iff_toInt_lt] at g
  rw [Int32.le_iff_toInt_le, ← Int.not_lt, g]
  cases r <;> simp
theorem rvC_gt {a b : Int × Int} {x y : Int32} {r : Bool} (h : rvCmp .gt a b = some r) (h1 : a.1 ≤ x.toInt) (h2 : x.toInt ≤ a.2) (h3 : b.1 ≤ y.toInt) (h4 : y.toInt ≤ b.2) : (y < x) ↔ r = true := rvLt_ok h h3 h4 h1 h2
theorem rvC_le {a b : Int × Int} {x y : Int32} {r : Bool} (h : rvCmp .le a b = some r) (h1 : a.1 ≤ x.toInt) (h2 : x.toInt ≤ a.2) (h3 : b.1 ≤ y.toInt) (h4 : y.toInt ≤ b.2) : (x ≤ y) ↔ r = true := by
  have g := rvLt_ok (rvNo_ok h) h3 h4 h1 h2
  rw [Int32.lt_iff_toInt_lt] at g
  rw [Int32.le_iff_toInt_le, ← Int.not_lt, g]
  cases r <;> simp
section RVS
variable {p : Program} {l : Launch} {e : Env} {R : Room} {s : State} {m : MethodId} {args : Array Value} {below : List Frame} {meth : Method} {c : Code} {Q : State → Prop} {cc : ByteArray} {own : String} {mL : Nat} {D : va_G} {cT : Nat → ClassId} {ex : Nat → Nat → Nat} {A : Nat → Prop} {sc : List (Int × Int)} {ini : Bool}
set_option maxHeartbeats 4000000 in
set_option maxRecDepth 100000 in
theorem rs_iconst (C : rvCx p s m args meth c cc own mL D cT ex A ini sc) {BC BS a1 a2 a3 wi pc kc ks : Nat} {n : Int} {al st : List rvV} {aw : rvH} {o : rvS} (hd : decode cc pc = .ok (.iconst n, 1)) (hk : rvAux own ini (.iconst n) a1 a2 wi = true) (hBC : BC ≤ R.cells) (hBS : BS ≤ R.slots)
    (h : rvStep rvTy rvNf rvTxt sc BC BS mL (.iconst n) a1 a2 a3 pc al st aw kc ks = some o) (k : rvG p l e R s m args below meth c Q D cT ex A mL o) : rvG p l e R s m args below meth c Q D cT ex A mL (pc, al, st, aw, kc, ks) := by
  obtain ⟨hx, hb, hml, hown, hts, hK, hA, hX, hini, hsc⟩ := C
  intro ws H locs ls stk hw hl hs hP hD hS
  dsimp only at hw hl hs ⊢
  obtain ⟨hc, rfl⟩ := rv_bif h
  exact lv_iconst hx hb hd rfl (k ws H locs ls _ hw hl ⟨rvR_K (rv_ofInt hc), hs⟩ hP hD hS)
set_option maxHeartbeats 4000000 in
set_option maxRecDepth 100000 in
theorem rs_bipush (C : rvCx p s m args meth c cc own mL D cT ex A ini sc) {BC BS a1 a2 a3 wi pc kc ks : Nat} {n : Int} {al st : List rvV} {aw : rvH} {o : rvS} (hd : decode cc pc = .ok (.bipush n, 2)) (hk : rvAux own ini (.bipush n) a1 a2 wi = true) (hBC : BC ≤ R.cells) (hBS : BS ≤ R.slots)
    (h : rvStep rvTy rvNf rvTxt sc BC BS mL (.bipush n) a1 a2 a3 pc al st aw kc ks = some o) (k : rvG p l e R s m args below meth c Q D cT ex A mL o) : rvG p l e R s m args below meth c Q D cT ex A mL (pc, al, st, aw, kc, ks) := by
  obtain ⟨hx, hb, hml, hown, hts, hK, hA, hX, hini, hsc⟩ := C
  intro ws H locs ls stk hw hl hs hP hD hS
  dsimp only at hw hl hs ⊢
  obtain ⟨hc, rfl⟩ := rv_bif h
  exact lv_bipush hx hb hd rfl (k ws H locs ls _ hw hl ⟨rvR_K (rv_ofInt8 hc), hs⟩ hP hD hS)
set_option maxHeartbeats 4000000 in
set_option maxRecDepth 100000 in
theorem rs_sipush (C : rvCx p s m args meth c cc own mL D cT ex A ini sc) {BC BS a1 a2 a3 wi pc kc ks : Nat} {n : Int} {al st : List rvV} {aw : rvH} {o : rvS} (hd : decode cc pc = .ok (.sipush n, 3)) (hk : rvAux own ini (.sipush n) a1 a2 wi = true) (hBC : BC ≤ R.cells) (hBS : BS ≤ R.slots)
    (h : rvStep rvTy rvNf rvTxt sc BC BS mL (.sipush n) a1 a2 a3 pc al st aw kc ks = some o) (k : rvG p l e R s m args below meth c Q D cT ex A mL o) : rvG p l e R s m args below meth c Q D cT ex A mL (pc, al, st, aw, kc, ks) := by
  obtain ⟨hx, hb, hml, hown, hts, hK, hA, hX, hini, hsc⟩ := C
  intro ws H locs ls stk hw hl hs hP hD hS
  dsimp only at hw hl hs ⊢
  obtain ⟨hc, rfl⟩ := rv_bif h
  exact lv_sipush hx hb hd rfl (k ws H locs ls _ hw hl ⟨rvR_K (rv_ofInt16 hc), hs⟩ hP hD hS)
set_option maxHeartbeats 4000000 in
set_option maxRecDepth 100000 in
theorem rs_lconst (C : rvCx p s m args meth c cc own mL D cT ex A ini sc) {BC BS a1 a2 a3 wi pc kc ks : Nat} {n : Fin 2} {al st : List rvV} {aw : rvH} {o : rvS} (hd : decode cc pc = .ok (.lconst n, 1)) (hk : rvAux own ini (.lconst n) a1 a2 wi = true) (hBC : BC ≤ R.cells) (hBS : BS ≤ R.slots)
    (h : rvStep rvTy rvNf rvTxt sc BC BS mL (.lconst n) a1 a2 a3 pc al st aw kc ks = some o) (k : rvG p l e R s m args below meth c Q D cT ex A mL o) : rvG p l e R s m args below meth c Q D cT ex A mL (pc, al, st, aw, kc, ks) := by
  obtain ⟨hx, hb, hml, hown, hts, hK, hA, hX, hini, hsc⟩ := C
  intro ws H locs ls stk hw hl hs hP hD hS
  dsimp only at hw hl hs ⊢
  cases h
  exact lv_lconst hx hb hd rfl (k ws H locs ls _ hw hl ⟨⟨_, rfl⟩, hs⟩ hP hD hS)
set_option maxHeartbeats 4000000 in
set_option maxRecDepth 100000 in
theorem rs_ldc2_w (C : rvCx p s m args meth c cc own mL D cT ex A ini sc) {BC BS a1 a2 a3 wi pc kc ks n : Nat} {al st : List rvV} {aw : rvH} {o : rvS} (hd : decode cc pc = .ok (.ldc2_w n, 3)) (hk : rvAux own ini (.ldc2_w n) a1 a2 wi = true) (hBC : BC ≤ R.cells) (hBS : BS ≤ R.slots)
    (h : rvStep rvTy rvNf rvTxt sc BC BS mL (.ldc2_w n) a1 a2 a3 pc al st aw kc ks = some o) (k : rvG p l e R s m args below meth c Q D cT ex A mL o) : rvG p l e R s m args below meth c Q D cT ex A mL (pc, al, st, aw, kc, ks) := by
  obtain ⟨hx, hb, hml, hown, hts, hK, hA, hX, hini, hsc⟩ := C
  intro ws H locs ls stk hw hl hs hP hD hS
  dsimp only at hw hl hs ⊢
  cases h
  have hk : (match lw_tbl[wi]? with
    | some (.constantLong ow k v) => decide (ow = own) && (Nat.beq k n && goodWord (.constantLong ow k v))
    | _ => false) = true := hk
  split at hk
  · rename_i ow k0 v he
    obtain ⟨g1, g2⟩ := rv_and hk
    obtain ⟨g2, g3⟩ := rv_and g2
    have e1 := of_decide_eq_true g1
    have e2 := rv_beq g2
    subst e1; subst e2
    exact lv_ldc2 hx hb hown (hts _ (List.mem_filter.mpr ⟨List.mem_of_getElem? he, g3⟩)) hd (k ws H locs ls _ hw hl ⟨⟨_, rfl⟩, hs⟩ hP hD hS)
  · cases hk
set_option maxHeartbeats 4000000 in
set_option maxRecDepth 100000 in
theorem rs_ldc (C : rvCx p s m args meth c cc own mL D cT ex A ini sc) {BC BS a1 a2 a3 wi pc kc ks n : Nat} {al st : List rvV} {aw : rvH} {o : rvS} (hd : decode cc pc = .ok (.ldc n, 2)) (hk : rvAux own ini (.ldc n) a1 a2 wi = true) (hBC : BC ≤ R.cells) (hBS : BS ≤ R.slots)
    (h : rvStep rvTy rvNf rvTxt sc BC BS mL (.ldc n) a1 a2 a3 pc al st aw kc ks = some o) (k : rvG p l e R s m args below meth c Q D cT ex A mL o) : rvG p l e R s m args below meth c Q D cT ex A mL (pc, al, st, aw, kc, ks) := by
  obtain ⟨hx, hb, hml, hown, hts, hK, hA, hX, hini, hsc⟩ := C
  intro ws H locs ls stk hw hl hs hP hD hS
  dsimp only at hw hl hs ⊢
  cases h
  obtain ⟨g1, g2⟩ := rv_and hk
  have e1 := of_decide_eq_true g1
  have e2 := rv_beq g2
  subst e1; subst e2
  exact va_ldcS hx hb hown hX.2.2.2.1 hd (k ws H locs ls _ hw hl ⟨rfl, hs⟩ hP hD hS)
set_option maxHeartbeats 4000000 in
set_option maxRecDepth 100000 in
theorem rs_aconst_null (C : rvCx p s m args meth c cc own mL D cT ex A ini sc) {BC BS a1 a2 a3 wi pc kc ks : Nat} {al st : List rvV} {aw : rvH} {o : rvS} (hd : decode cc pc = .ok (.aconst_null, 1)) (hk : rvAux own ini (.aconst_null) a1 a2 wi = true) (hBC : BC ≤ R.cells) (hBS : BS ≤ R.slots)
    (h : rvStep rvTy rvNf rvTxt sc BC BS mL (.aconst_null) a1 a2 a3 pc al st aw kc ks = some o) (k : rvG p l e R s m args below meth c Q D cT ex A mL o) : rvG p l e R s m args below meth c Q D cT ex A mL (pc, al, st, aw, kc, ks) := by
  obtain ⟨hx, hb, hml, hown, hts, hK, hA, hX, hini, hsc⟩ := C
  intro ws H locs ls stk hw hl hs hP hD hS
  dsimp only at hw hl hs ⊢
  cases h
  exact lv_null hx hb hd (k ws H locs ls _ hw hl ⟨rfl, hs⟩ hP hD hS)
set_option maxHeartbeats 4000000 in
set_option maxRecDepth 100000 in
theorem rs_iload (C : rvCx p s m args meth c cc own mL D cT ex A ini sc) {BC BS a1 a2 a3 wi pc kc ks n : Nat} {al st : List rvV} {aw : rvH} {o : rvS} (hd : decode cc pc = .ok (.iload n, 2)) (hk : rvAux own ini (.iload n) a1 a2 wi = true) (hBC : BC ≤ R.cells) (hBS : BS ≤ R.slots)
    (h : rvStep rvTy rvNf rvTxt sc BC BS mL (.iload n) a1 a2 a3 pc al st aw kc ks = some o) (k : rvG p l e R s m args below meth c Q D cT ex A mL o) : rvG p l e R s m args below meth c Q D cT ex A mL (pc, al, st, aw, kc, ks) := by
  obtain ⟨hx, hb, hml, hown, hts, hK, hA, hX, hini, hsc⟩ := C
  intro ws H locs ls stk hw hl hs hP hD hS
  dsimp only at hw hl hs ⊢
  simp only [rvStep] at h
  split at h
  · rename_i a ha
    cases h
    obtain ⟨x, hx1, n1, rfl, p1, q1⟩ := rvLo_get hl ha (fun z q => by cases q)
    exact lv_iload hx hb hd hx1 (k ws H locs ls _ hw hl ⟨⟨n1, rfl, p1, q1⟩, hs⟩ hP hD hS)
  · cases h
set_option maxHeartbeats 4000000 in
set_option maxRecDepth 100000 in
theorem rs_iload_n (C : rvCx p s m args meth c cc own mL D cT ex A ini sc) {BC BS a1 a2 a3 wi pc kc ks : Nat} {n : Fin 4} {al st : List rvV} {aw : rvH} {o : rvS} (hd : decode cc pc = .ok (.iload_n n, 1)) (hk : rvAux own ini (.iload_n n) a1 a2 wi = true) (hBC : BC ≤ R.cells) (hBS : BS ≤ R.slots)
    (h : rvStep rvTy rvNf rvTxt sc BC BS mL (.iload_n n) a1 a2 a3 pc al st aw kc ks = some o) (k : rvG p l e R s m args below meth c Q D cT ex A mL o) : rvG p l e R s m args below meth c Q D cT ex A mL (pc, al, st, aw, kc, ks) := by
  obtain ⟨hx, hb, hml, hown, hts, hK, hA, hX, hini, hsc⟩ := C
  intro ws H locs ls stk hw hl hs hP hD hS
  dsimp only at hw hl hs ⊢
  simp only [rvStep] at h
  split at h
  · rename_i a ha
    cases h
    obtain ⟨x, hx1, n1, rfl, p1, q1⟩ := rvLo_get hl ha (fun z q => by cases q)
    exact lv_iload_n hx hb hd rfl hx1 (k ws H locs ls _ hw hl ⟨⟨n1, rfl, p1, q1⟩, hs⟩ hP hD hS)
  · cases h
set_option maxHeartbeats 4000000 in
set_option maxRecDepth 100000 in
theorem rs_lload (C : rvCx p s m args meth c cc own mL D cT ex A ini sc) {BC BS a1 a2 a3 wi pc kc ks n : Nat} {al st : List rvV} {aw : rvH} {o : rvS} (hd : decode cc pc = .ok (.lload n, 2)) (hk : rvAux own ini (.lload n) a1 a2 wi = true) (hBC : BC ≤ R.cells) (hBS : BS ≤ R.slots)
    (h : rvStep rvTy rvNf rvTxt sc BC BS mL (.lload n) a1 a2 a3 pc al st aw kc ks = some o) (k : rvG p l e R s m args below meth c Q D cT ex A mL o) : rvG p l e R s m args below meth c Q D cT ex A mL (pc, al, st, aw, kc, ks) := by
  obtain ⟨hx, hb, hml, hown, hts, hK, hA, hX, hini, hsc⟩ := C
  intro ws H locs ls stk hw hl hs hP hD hS
  dsimp only at hw hl hs ⊢
  simp only [rvStep] at h
  split at h
  · rename_i z ha
    cases h
    obtain ⟨x, hx1, n1, rfl⟩ := rvLo_get hl ha (fun z q => by cases q)
    exact lv_lload hx hb hd hx1 (k ws H locs ls _ hw hl ⟨⟨n1, rfl⟩, hs⟩ hP hD hS)
  · cases h
set_option maxHeartbeats 4000000 in
set_option maxRecDepth 100000 in
theorem rs_lload_n (C : rvCx p s m args meth c cc own mL D cT ex A ini sc) {BC BS a1 a2 a3 wi pc kc ks : Nat} {n : Fin 4} {al st : List rvV} {aw : rvH} {o : rvS} (hd : decode cc pc = .ok (.lload_n n, 1)) (hk : rvAux own ini (.lload_n n) a1 a2 wi = true) (hBC : BC ≤ R.cells) (hBS : BS ≤ R.slots)
    (h : rvStep rvTy rvNf rvTxt sc BC BS mL (.lload_n n) a1 a2 a3 pc al st aw kc ks = some o) (k : rvG p l e R s m args below meth c Q D cT ex A mL o) : rvG p l e R s m args below meth c Q D cT ex A mL (pc, al, st, aw, kc, ks) := by
  obtain ⟨hx, hb, hml, hown, hts, hK, hA, hX, hini, hsc⟩ := C
  intro ws H locs ls stk hw hl hs hP hD hS
  dsimp only at hw hl hs ⊢
  simp only [rvStep] at h
  split at h
  · rename_i z ha
    cases h
    obtain ⟨x, hx1, n1, rfl⟩ := rvLo_get hl ha (fun z q => by cases q)
    exact lv_lload_n hx hb hd rfl hx1 (k ws H locs ls _ hw hl ⟨⟨n1, rfl⟩, hs⟩ hP hD hS)
  · cases h
set_option maxHeartbeats 4000000 in
set_option maxRecDepth 100000 in
theorem rs_aload (C : rvCx p s m args meth c cc own mL D cT ex A ini sc) {BC BS a1 a2 a3 wi pc kc ks n : Nat} {al st : List rvV} {aw : rvH} {o : rvS} (hd : decode cc pc = .ok (.aload n, 2)) (hk : rvAux own ini (.aload n) a1 a2 wi = true) (hBC : BC ≤ R.cells) (hBS : BS ≤ R.slots)
    (h : rvStep rvTy rvNf rvTxt sc BC BS mL (.aload n) a1 a2 a3 pc al st aw kc ks = some o) (k : rvG p l e R s m args below meth c Q D cT ex A mL o) : rvG p l e R s m args below meth c Q D cT ex A mL (pc, al, st, aw, kc, ks) := by
  obtain ⟨hx, hb, hml, hown, hts, hK, hA, hX, hini, hsc⟩ := C
  intro ws H locs ls stk hw hl hs hP hD hS
  dsimp only at hw hl hs ⊢
  simp only [rvStep] at h
  split at h
  · rename_i v hv
    obtain ⟨hc, rfl⟩ := rv_bif h
    obtain ⟨x, hx1, hx2⟩ := rvLo_get hl hv (fun z q => by subst q; cases hc)
    rcases rvR_A hc hx2 with rfl | ⟨q, rfl⟩
    · exact lv_aloadN hx hb hd hx1 (k ws H locs ls _ hw hl ⟨hx2, hs⟩ hP hD hS)
    · exact lv_aload hx hb hd hx1 (k ws H locs ls _ hw hl ⟨hx2, hs⟩ hP hD hS)
  · cases h
set_option maxHeartbeats 4000000 in
set_option maxRecDepth 100000 in
theorem rs_aload_n (C : rvCx p s m args meth c cc own mL D cT ex A ini sc) {BC BS a1 a2 a3 wi pc kc ks : Nat} {n : Fin 4} {al st : List rvV} {aw : rvH} {o : rvS} (hd : decode cc pc = .ok (.aload_n n, 1)) (hk : rvAux own ini (.aload_n n) a1 a2 wi = true) (hBC : BC ≤ R.cells) (hBS : BS ≤ R.slots)
    (h : rvStep rvTy rvNf rvTxt sc BC BS mL (.aload_n n) a1 a2 a3 pc al st aw kc ks = some o) (k : rvG p l e R s m args below meth c Q D cT ex A mL o) : rvG p l e R s m args below meth c Q D cT ex A mL (pc, al, st, aw, kc, ks) := by
  obtain ⟨hx, hb, hml, hown, hts, hK, hA, hX, hini, hsc⟩ := C
  intro ws H locs ls stk hw hl hs hP hD hS
  dsimp only at hw hl hs ⊢
  simp only [rvStep] at h
  split at h
  · rename_i v hv
    obtain ⟨hc, rfl⟩ := rv_bif h
    obtain ⟨x, hx1, hx2⟩ := rvLo_get hl hv (fun z q => by subst q; cases hc)
    rcases rvR_A hc hx2 with rfl | ⟨q, rfl⟩
    · exact lv_aload_nN hx hb hd rfl hx1 (k ws H locs ls _ hw hl ⟨hx2, hs⟩ hP hD hS)
    · exact lv_aload_n hx hb hd rfl hx1 (k ws H locs ls _ hw hl ⟨hx2, hs⟩ hP hD hS)
  · cases h
set_option maxHeartbeats 4000000 in
set_option maxRecDepth 100000 in
theorem rs_istore (C : rvCx p s m args meth c cc own mL D cT ex A ini sc) {BC BS a1 a2 a3 wi pc kc ks n : Nat} {al st : List rvV} {aw : rvH} {o : rvS} (hd : decode cc pc = .ok (.istore n, 2)) (hk : rvAux own ini (.istore n) a1 a2 wi = true) (hBC : BC ≤ R.cells) (hBS : BS ≤ R.slots)
    (h : rvStep rvTy rvNf rvTxt sc BC BS mL (.istore n) a1 a2 a3 pc al st aw kc ks = some o) (k : rvG p l e R s m args below meth c Q D cT ex A mL o) : rvG p l e R s m args below meth c Q D cT ex A mL (pc, al, st, aw, kc, ks) := by
  obtain ⟨hx, hb, hml, hown, hts, hK, hA, hX, hini, hsc⟩ := C
  intro ws H locs ls stk hw hl hs hP hD hS
  dsimp only at hw hl hs ⊢
  simp only [rvStep] at h
  split at h
  · rename_i a st
    obtain ⟨hc, rfl⟩ := rv_bif h
    obtain ⟨x, stk1, rfl, ⟨n1, rfl, p1, q1⟩, hs1⟩ := rvRs_cons hs
    obtain ⟨l0, lv, hv1, hv2⟩ := hl
    exact lv_istore hx hb hd hv1 (rv_blt hc) rfl (fun ls' h' => k ws H locs ls' _ hw (rvLo_set1 l0 (rv_blt hc) hv2 ⟨n1, rfl, p1, q1⟩ h') hs1 hP hD hS)
  · cases h
set_option maxHeartbeats 4000000 in
set_option maxRecDepth 100000 in
theorem rs_istore_n (C : rvCx p s m args meth c cc own mL D cT ex A ini sc) {BC BS a1 a2 a3 wi pc kc ks : Nat} {n : Fin 4} {al st : List rvV} {aw : rvH} {o : rvS} (hd : decode cc pc = .ok (.istore_n n, 1)) (hk : rvAux own ini (.istore_n n) a1 a2 wi = true) (hBC : BC ≤ R.cells) (hBS : BS ≤ R.slots)
    (h : rvStep rvTy rvNf rvTxt sc BC BS mL (.istore_n n) a1 a2 a3 pc al st aw kc ks = some o) (k : rvG p l e R s m args below meth c Q D cT ex A mL o) : rvG p l e R s m args below meth c Q D cT ex A mL (pc, al, st, aw, kc, ks) := by
  obtain ⟨hx, hb, hml, hown, hts, hK, hA, hX, hini, hsc⟩ := C
  intro ws H locs ls stk hw hl hs hP hD hS
  dsimp only at hw hl hs ⊢
  simp only [rvStep] at h
  split at h
  · rename_i a st
    obtain ⟨hc, rfl⟩ := rv_bif h
    obtain ⟨x, stk1, rfl, ⟨n1, rfl, p1, q1⟩, hs1⟩ := rvRs_cons hs
    obtain ⟨l0, lv, hv1, hv2⟩ := hl
    exact lv_istore_n hx hb hd rfl hv1 (rv_blt hc) rfl (fun ls' h' => k ws H locs ls' _ hw (rvLo_set1 l0 (rv_blt hc) hv2 ⟨n1, rfl, p1, q1⟩ h') hs1 hP hD hS)
  · cases h
set_option maxHeartbeats 4000000 in
set_option maxRecDepth 100000 in
theorem rs_lstore (C : rvCx p s m args meth c cc own mL D cT ex A ini sc) {BC BS a1 a2 a3 wi pc kc ks n : Nat} {al st : List rvV} {aw : rvH} {o : rvS} (hd : decode cc pc = .ok (.lstore n, 2)) (hk : rvAux own ini (.lstore n) a1 a2 wi = true) (hBC : BC ≤ R.cells) (hBS : BS ≤ R.slots)
    (h : rvStep rvTy rvNf rvTxt sc BC BS mL (.lstore n) a1 a2 a3 pc al st aw kc ks = some o) (k : rvG p l e R s m args below meth c Q D cT ex A mL o) : rvG p l e R s m args below meth c Q D cT ex A mL (pc, al, st, aw, kc, ks) := by
  obtain ⟨hx, hb, hml, hown, hts, hK, hA, hX, hini, hsc⟩ := C
  intro ws H locs ls stk hw hl hs hP hD hS
  dsimp only at hw hl hs ⊢
  simp only [rvStep] at h
  split at h
  · rename_i z st
    obtain ⟨hc, rfl⟩ := rv_bif h
    obtain ⟨x, stk1, rfl, ⟨n1, rfl⟩, hs1⟩ := rvRs_cons hs
    obtain ⟨l0, lv, hv1, hv2⟩ := hl
    exact lv_lstore hx hb hd hv1 (rv_blt hc) rfl (fun ls' h' => k ws H locs ls' _ hw (rvLo_set2 (v := rvL) l0 (rv_blt hc) hv2 ⟨n1, rfl⟩ h') hs1 hP hD hS)
  · cases h
set_option maxHeartbeats 4000000 in
set_option maxRecDepth 100000 in
theorem rs_lstore_n (C : rvCx p s m args meth c cc own mL D cT ex A ini sc) {BC BS a1 a2 a3 wi pc kc ks : Nat} {n : Fin 4} {al st : List rvV} {aw : rvH} {o : rvS} (hd : decode cc pc = .ok (.lstore_n n, 1)) (hk : rvAux own ini (.lstore_n n) a1 a2 wi = true) (hBC : BC ≤ R.cells) (hBS : BS ≤ R.slots)
    (h : rvStep rvTy rvNf rvTxt sc BC BS mL (.lstore_n n) a1 a2 a3 pc al st aw kc ks = some o) (k : rvG p l e R s m args below meth c Q D cT ex A mL o) : rvG p l e R s m args below meth c Q D cT ex A mL (pc, al, st, aw, kc, ks) := by
  obtain ⟨hx, hb, hml, hown, hts, hK, hA, hX, hini, hsc⟩ := C
  intro ws H locs ls stk hw hl hs hP hD hS
  dsimp only at hw hl hs ⊢
  simp only [rvStep] at h
  split at h
  · rename_i z st
    obtain ⟨hc, rfl⟩ := rv_bif h
    obtain ⟨x, stk1, rfl, ⟨n1, rfl⟩, hs1⟩ := rvRs_cons hs
    obtain ⟨l0, lv, hv1, hv2⟩ := hl
    exact lv_lstore_n hx hb hd rfl hv1 (rv_blt hc) rfl (fun ls' h' => k ws H locs ls' _ hw (rvLo_set2 (v := rvL) l0 (rv_blt hc) hv2 ⟨n1, rfl⟩ h') hs1 hP hD hS)
  · cases h
set_option maxHeartbeats 4000000 in
set_option maxRecDepth 100000 in
theorem rs_astore (C : rvCx p s m args meth c cc own mL D cT ex A ini sc) {BC BS a1 a2 a3 wi pc kc ks n : Nat} {al st : List rvV} {aw : rvH} {o : rvS} (hd : decode cc pc = .ok (.astore n, 2)) (hk : rvAux own ini (.astore n) a1 a2 wi = true) (hBC : BC ≤ R.cells) (hBS : BS ≤ R.slots)
    (h : rvStep rvTy rvNf rvTxt sc BC BS mL (.astore n) a1 a2 a3 pc al st aw kc ks = some o) (k : rvG p l e R s m args below meth c Q D cT ex A mL o) : rvG p l e R s m args below meth c Q D cT ex A mL (pc, al, st, aw, kc, ks) := by
  obtain ⟨hx, hb, hml, hown, hts, hK, hA, hX, hini, hsc⟩ := C
  intro ws H locs ls stk hw hl hs hP hD hS
  dsimp only at hw hl hs ⊢
  simp only [rvStep] at h
  split at h
  · rename_i v st
    obtain ⟨hc, rfl⟩ := rv_bif h
    obtain ⟨hc1, hc2⟩ := rv_and hc
    obtain ⟨x, stk1, rfl, hx2, hs1⟩ := rvRs_cons hs
    obtain ⟨l0, lv, hv1, hv2⟩ := hl
    rcases rvR_A hc1 hx2 with rfl | ⟨q, rfl⟩
    · exact lv_astoreN hx hb hd hv1 (rv_blt hc2) rfl (fun ls' h' => k ws H locs ls' _ hw (rvLo_set1 l0 (rv_blt hc2) hv2 hx2 h') hs1 hP hD hS)
    · exact lv_astore hx hb hd hv1 (rv_blt hc2) rfl (fun ls' h' => k ws H locs ls' _ hw (rvLo_set1 l0 (rv_blt hc2) hv2 hx2 h') hs1 hP hD hS)
  · cases h
set_option maxHeartbeats 4000000 in
set_option maxRecDepth 100000 in
theorem rs_astore_n (C : rvCx p s m args meth c cc own mL D cT ex A ini sc) {BC BS a1 a2 a3 wi pc kc ks : Nat} {n : Fin 4} {al st : List rvV} {aw : rvH} {o : rvS} (hd : decode cc pc = .ok (.astore_n n, 1)) (hk : rvAux own ini (.astore_n n) a1 a2 wi = true) (hBC : BC ≤ R.cells) (hBS : BS ≤ R.slots)
    (h : rvStep rvTy rvNf rvTxt sc BC BS mL (.astore_n n) a1 a2 a3 pc al st aw kc ks = some o) (k : rvG p l e R s m args below meth c Q D cT ex A mL o) : rvG p l e R s m args below meth c Q D cT ex A mL (pc, al, st, aw, kc, ks) := by
  obtain ⟨hx, hb, hml, hown, hts, hK, hA, hX, hini, hsc⟩ := C
  intro ws H locs ls stk hw hl hs hP hD hS
  dsimp only at hw hl hs ⊢
  simp only [rvStep] at h
  split at h
  · rename_i v st
    obtain ⟨hc, rfl⟩ := rv_bif h
    obtain ⟨hc1, hc2⟩ := rv_and hc
    obtain ⟨x, stk1, rfl, hx2, hs1⟩ := rvRs_cons hs
    obtain ⟨l0, lv, hv1, hv2⟩ := hl
    rcases rvR_A hc1 hx2 with rfl | ⟨q, rfl⟩
    · exact lv_astore_nN hx hb hd rfl hv1 (rv_blt hc2) rfl (fun ls' h' => k ws H locs ls' _ hw (rvLo_set1 l0 (rv_blt hc2) hv2 hx2 h') hs1 hP hD hS)
    · exact lv_astore_n hx hb hd rfl hv1 (rv_blt hc2) rfl (fun ls' h' => k ws H locs ls' _ hw (rvLo_set1 l0 (rv_blt hc2) hv2 hx2 h') hs1 hP hD hS)
  · cases h
set_option maxHeartbeats 4000000 in
set_option maxRecDepth 100000 in
theorem rs_iinc (C : rvCx p s m args meth c cc own mL D cT ex A ini sc) {BC BS a1 a2 a3 wi pc kc ks n : Nat} {z : Int} {al st : List rvV} {aw : rvH} {o : rvS} (hd : decode cc pc = .ok (.iinc n z, 3)) (hk : rvAux own ini (.iinc n z) a1 a2 wi = true) (hBC : BC ≤ R.cells) (hBS : BS ≤ R.slots)
    (h : rvStep rvTy rvNf rvTxt sc BC BS mL (.iinc n z) a1 a2 a3 pc al st aw kc ks = some o) (k : rvG p l e R s m args below meth c Q D cT ex A mL o) : rvG p l e R s m args below meth c Q D cT ex A mL (pc, al, st, aw, kc, ks) := by
  obtain ⟨hx, hb, hml, hown, hts, hK, hA, hX, hini, hsc⟩ := C
  intro ws H locs ls stk hw hl hs hP hD hS
  dsimp only at hw hl hs ⊢
  simp only [rvStep] at h
  split at h
  · rename_i a ha
    obtain ⟨hc, rfl⟩ := rv_bif h
    obtain ⟨hc1, hc2⟩ := rv_and hc
    obtain ⟨l0, lv, hv1, hv2⟩ := hl
    rcases hv2 n (.inl a) ha with ⟨z9, q⟩ | ⟨x, hm, n1, rfl, p1, q1⟩
    · cases q
    · obtain ⟨k0, hk0⟩ := List.getElem?_of_mem hm
      have e0 := rv_ofInt hc2
      exact lv_iinc hx hb hd hv1 hk0 rfl (rv_blt hc1) rfl (fun ls' h' => k ws H locs ls' _ hw (rvLo_set1 l0 (rv_blt hc1) hv2 (rvBin_ok (f := (· + ·)) p1 q1 (show z ≤ (Int32.ofInt z).toInt by omega) (show (Int32.ofInt z).toInt ≤ z by omega)) h') hs hP hD hS)
  · cases h
set_option maxHeartbeats 4000000 in
set_option maxRecDepth 100000 in
theorem rs_iadd (C : rvCx p s m args meth c cc own mL D cT ex A ini sc) {BC BS a1 a2 a3 wi pc kc ks : Nat} {al st : List rvV} {aw : rvH} {o : rvS} (hd : decode cc pc = .ok (.iadd, 1)) (hk : rvAux own ini (.iadd) a1 a2 wi = true) (hBC : BC ≤ R.cells) (hBS : BS ≤ R.slots)
    (h : rvStep rvTy rvNf rvTxt sc BC BS mL (.iadd) a1 a2 a3 pc al st aw kc ks = some o) (k : rvG p l e R s m args below meth c Q D cT ex A mL o) : rvG p l e R s m args below meth c Q D cT ex A mL (pc, al, st, aw, kc, ks) := by
  obtain ⟨hx, hb, hml, hown, hts, hK, hA, hX, hini, hsc⟩ := C
  intro ws H locs ls stk hw hl hs hP hD hS
  dsimp only at hw hl hs ⊢
  simp only [rvStep] at h
  split at h
  · rename_i b a st
    cases h
    obtain ⟨y2, stk2, rfl, ⟨n2, rfl, p2, q2⟩, hs2⟩ := rvRs_cons hs
    obtain ⟨y1, stk1, rfl, ⟨n1, rfl, p1, q1⟩, hs1⟩ := rvRs_cons hs2
    exact lv_iadd hx hb hd (k ws H locs ls _ hw hl ⟨rvBin_ok p1 q1 p2 q2, hs1⟩ hP hD hS)
  · cases h
set_option maxHeartbeats 4000000 in
set_option maxRecDepth 100000 in
theorem rs_isub (C : rvCx p s m args meth c cc own mL D cT ex A ini sc) {BC BS a1 a2 a3 wi pc kc ks : Nat} {al st : List rvV} {aw : rvH} {o : rvS} (hd : decode cc pc = .ok (.isub, 1)) (hk : rvAux own ini (.isub) a1 a2 wi = true) (hBC : BC ≤ R.cells) (hBS : BS ≤ R.slots)
    (h : rvStep rvTy rvNf rvTxt sc BC BS mL (.isub) a1 a2 a3 pc al st aw kc ks = some o) (k : rvG p l e R s m args below meth c Q D cT ex A mL o) : rvG p l e R s m args below meth c Q D cT ex A mL (pc, al, st, aw, kc, ks) := by
  obtain ⟨hx, hb, hml, hown, hts, hK, hA, hX, hini, hsc⟩ := C
  intro ws H locs ls stk hw hl hs hP hD hS
  dsimp only at hw hl hs ⊢
  simp only [rvStep] at h
  split at h
  · rename_i b a st
    cases h
    obtain ⟨y2, stk2, rfl, ⟨n2, rfl, p2, q2⟩, hs2⟩ := rvRs_cons hs
    obtain ⟨y1, stk1, rfl, ⟨n1, rfl, p1, q1⟩, hs1⟩ := rvRs_cons hs2
    exact lv_isub hx hb hd (k ws H locs ls _ hw hl ⟨rvBin_ok p1 q1 p2 q2, hs1⟩ hP hD hS)
  · cases h
set_option maxHeartbeats 4000000 in
set_option maxRecDepth 100000 in
theorem rs_imul (C : rvCx p s m args meth c cc own mL D cT ex A ini sc) {BC BS a1 a2 a3 wi pc kc ks : Nat} {al st : List rvV} {aw : rvH} {o : rvS} (hd : decode cc pc = .ok (.imul, 1)) (hk : rvAux own ini (.imul) a1 a2 wi = true) (hBC : BC ≤ R.cells) (hBS : BS ≤ R.slots)
    (h : rvStep rvTy rvNf rvTxt sc BC BS mL (.imul) a1 a2 a3 pc al st aw kc ks = some o) (k : rvG p l e R s m args below meth c Q D cT ex A mL o) : rvG p l e R s m args below meth c Q D cT ex A mL (pc, al, st, aw, kc, ks) := by
  obtain ⟨hx, hb, hml, hown, hts, hK, hA, hX, hini, hsc⟩ := C
  intro ws H locs ls stk hw hl hs hP hD hS
  dsimp only at hw hl hs ⊢
  simp only [rvStep] at h
  split at h
  · rename_i b a st
    cases h
    obtain ⟨y2, stk2, rfl, ⟨n2, rfl, p2, q2⟩, hs2⟩ := rvRs_cons hs
    obtain ⟨y1, stk1, rfl, ⟨n1, rfl, p1, q1⟩, hs1⟩ := rvRs_cons hs2
    exact lv_imul hx hb hd (k ws H locs ls _ hw hl ⟨rvBin_ok p1 q1 p2 q2, hs1⟩ hP hD hS)
  · cases h
set_option maxHeartbeats 4000000 in
set_option maxRecDepth 100000 in
theorem rs_iand (C : rvCx p s m args meth c cc own mL D cT ex A ini sc) {BC BS a1 a2 a3 wi pc kc ks : Nat} {al st : List rvV} {aw : rvH} {o : rvS} (hd : decode cc pc = .ok (.iand, 1)) (hk : rvAux own ini (.iand) a1 a2 wi = true) (hBC : BC ≤ R.cells) (hBS : BS ≤ R.slots)
    (h : rvStep rvTy rvNf rvTxt sc BC BS mL (.iand) a1 a2 a3 pc al st aw kc ks = some o) (k : rvG p l e R s m args below meth c Q D cT ex A mL o) : rvG p l e R s m args below meth c Q D cT ex A mL (pc, al, st, aw, kc, ks) := by
  obtain ⟨hx, hb, hml, hown, hts, hK, hA, hX, hini, hsc⟩ := C
  intro ws H locs ls stk hw hl hs hP hD hS
  dsimp only at hw hl hs ⊢
  simp only [rvStep] at h
  split at h
  · rename_i b a st
    cases h
    obtain ⟨y2, stk2, rfl, ⟨n2, rfl, p2, q2⟩, hs2⟩ := rvRs_cons hs
    obtain ⟨y1, stk1, rfl, ⟨n1, rfl, p1, q1⟩, hs1⟩ := rvRs_cons hs2
    exact lv_iand hx hb hd (k ws H locs ls _ hw hl ⟨rvBin_ok p1 q1 p2 q2, hs1⟩ hP hD hS)
  · cases h
set_option maxHeartbeats 4000000 in
set_option maxRecDepth 100000 in
theorem rs_ior (C : rvCx p s m args meth c cc own mL D cT ex A ini sc) {BC BS a1 a2 a3 wi pc kc ks : Nat} {al st : List rvV} {aw : rvH} {o : rvS} (hd : decode cc pc = .ok (.ior, 1)) (hk : rvAux own ini (.ior) a1 a2 wi = true) (hBC : BC ≤ R.cells) (hBS : BS ≤ R.slots)
    (h : rvStep rvTy rvNf rvTxt sc BC BS mL (.ior) a1 a2 a3 pc al st aw kc ks = some o) (k : rvG p l e R s m args below meth c Q D cT ex A mL o) : rvG p l e R s m args below meth c Q D cT ex A mL (pc, al, st, aw, kc, ks) := by
  obtain ⟨hx, hb, hml, hown, hts, hK, hA, hX, hini, hsc⟩ := C
  intro ws H locs ls stk hw hl hs hP hD hS
  dsimp only at hw hl hs ⊢
  simp only [rvStep] at h
  split at h
  · rename_i b a st
    cases h
    obtain ⟨y2, stk2, rfl, ⟨n2, rfl, p2, q2⟩, hs2⟩ := rvRs_cons hs
    obtain ⟨y1, stk1, rfl, ⟨n1, rfl, p1, q1⟩, hs1⟩ := rvRs_cons hs2
    exact lv_ior hx hb hd (k ws H locs ls _ hw hl ⟨rvBin_ok p1 q1 p2 q2, hs1⟩ hP hD hS)
  · cases h
set_option maxHeartbeats 4000000 in
set_option maxRecDepth 100000 in
theorem rs_ixor (C : rvCx p s m args meth c cc own mL D cT ex A ini sc) {BC BS a1 a2 a3 wi pc kc ks : Nat} {al st : List rvV} {aw : rvH} {o : rvS} (hd : decode cc pc = .ok (.ixor, 1)) (hk : rvAux own ini (.ixor) a1 a2 wi = true) (hBC : BC ≤ R.cells) (hBS : BS ≤ R.slots)
    (h : rvStep rvTy rvNf rvTxt sc BC BS mL (.ixor) a1 a2 a3 pc al st aw kc ks = some o) (k : rvG p l e R s m args below meth c Q D cT ex A mL o) : rvG p l e R s m args below meth c Q D cT ex A mL (pc, al, st, aw, kc, ks) := by
  obtain ⟨hx, hb, hml, hown, hts, hK, hA, hX, hini, hsc⟩ := C
  intro ws H locs ls stk hw hl hs hP hD hS
  dsimp only at hw hl hs ⊢
  simp only [rvStep] at h
  split at h
  · rename_i b a st
    cases h
    obtain ⟨y2, stk2, rfl, ⟨n2, rfl, p2, q2⟩, hs2⟩ := rvRs_cons hs
    obtain ⟨y1, stk1, rfl, ⟨n1, rfl, p1, q1⟩, hs1⟩ := rvRs_cons hs2
    exact lv_ixor hx hb hd (k ws H locs ls _ hw hl ⟨rvBin_ok p1 q1 p2 q2, hs1⟩ hP hD hS)
  · cases h
set_option maxHeartbeats 4000000 in
set_option maxRecDepth 100000 in
theorem rs_ishl (C : rvCx p s m args meth c cc own mL D cT ex A ini sc) {BC BS a1 a2 a3 wi pc kc ks : Nat} {al st : List rvV} {aw : rvH} {o : rvS} (hd : decode cc pc = .ok (.ishl, 1)) (hk : rvAux own ini (.ishl) a1 a2 wi = true) (hBC : BC ≤ R.cells) (hBS : BS ≤ R.slots)
    (h : rvStep rvTy rvNf rvTxt sc BC BS mL (.ishl) a1 a2 a3 pc al st aw kc ks = some o) (k : rvG p l e R s m args below meth c Q D cT ex A mL o) : rvG p l e R s m args below meth c Q D cT ex A mL (pc, al, st, aw, kc, ks) := by
  obtain ⟨hx, hb, hml, hown, hts, hK, hA, hX, hini, hsc⟩ := C
  intro ws H locs ls stk hw hl hs hP hD hS
  dsimp only at hw hl hs ⊢
  simp only [rvStep] at h
  split at h
  · rename_i b a st
    cases h
    obtain ⟨y2, stk2, rfl, ⟨n2, rfl, p2, q2⟩, hs2⟩ := rvRs_cons hs
    obtain ⟨y1, stk1, rfl, ⟨n1, rfl, p1, q1⟩, hs1⟩ := rvRs_cons hs2
    exact lv_ishl hx hb hd (k ws H locs ls _ hw hl ⟨rvBin_ok (f := fun x y => x <<< (y &&& 31)) p1 q1 p2 q2, hs1⟩ hP hD hS)
  · cases h
set_option maxHeartbeats 4000000 in
set_option maxRecDepth 100000 in
theorem rs_ishr (C : rvCx p s m args meth c cc own mL D cT ex A ini sc) {BC BS a1 a2 a3 wi pc kc ks : Nat} {al st : List rvV} {aw : rvH} {o : rvS} (hd : decode cc pc = .ok (.ishr, 1)) (hk : rvAux own ini (.ishr) a1 a2 wi = true) (hBC : BC ≤ R.cells) (hBS : BS ≤ R.slots)
    (h : rvStep rvTy rvNf rvTxt sc BC BS mL (.ishr) a1 a2 a3 pc al st aw kc ks = some o) (k : rvG p l e R s m args below meth c Q D cT ex A mL o) : rvG p l e R s m args below meth c Q D cT ex A mL (pc, al, st, aw, kc, ks) := by
  obtain ⟨hx, hb, hml, hown, hts, hK, hA, hX, hini, hsc⟩ := C
  intro ws H locs ls stk hw hl hs hP hD hS
  dsimp only at hw hl hs ⊢
  simp only [rvStep] at h
  split at h
  · rename_i b a st
    cases h
    obtain ⟨y2, stk2, rfl, ⟨n2, rfl, p2, q2⟩, hs2⟩ := rvRs_cons hs
    obtain ⟨y1, stk1, rfl, ⟨n1, rfl, p1, q1⟩, hs1⟩ := rvRs_cons hs2
    exact lv_ishr hx hb hd (k ws H locs ls _ hw hl ⟨rvBin_ok (f := fun x y => x >>> (y &&& 31)) p1 q1 p2 q2, hs1⟩ hP hD hS)
  · cases h
set_option maxHeartbeats 4000000 in
set_option maxRecDepth 100000 in
theorem rs_iushr (C : rvCx p s m args meth c cc own mL D cT ex A ini sc) {BC BS a1 a2 a3 wi pc kc ks : Nat} {al st : List rvV} {aw : rvH} {o : rvS} (hd : decode cc pc = .ok (.iushr, 1)) (hk : rvAux own ini (.iushr) a1 a2 wi = true) (hBC : BC ≤ R.cells) (hBS : BS ≤ R.slots)
    (h : rvStep rvTy rvNf rvTxt sc BC BS mL (.iushr) a1 a2 a3 pc al st aw kc ks = some o) (k : rvG p l e R s m args below meth c Q D cT ex A mL o) : rvG p l e R s m args below meth c Q D cT ex A mL (pc, al, st, aw, kc, ks) := by
  obtain ⟨hx, hb, hml, hown, hts, hK, hA, hX, hini, hsc⟩ := C
  intro ws H locs ls stk hw hl hs hP hD hS
  dsimp only at hw hl hs ⊢
  simp only [rvStep] at h
  split at h
  · rename_i b a st
    cases h
    obtain ⟨y2, stk2, rfl, ⟨n2, rfl, p2, q2⟩, hs2⟩ := rvRs_cons hs
    obtain ⟨y1, stk1, rfl, ⟨n1, rfl, p1, q1⟩, hs1⟩ := rvRs_cons hs2
    exact lv_iushr hx hb hd rfl (k ws H locs ls _ hw hl ⟨rvBin_ok (f := fun x y => (x.toUInt32 >>> (y.toUInt32 &&& Int32.toUInt32 31)).toInt32) p1 q1 p2 q2, hs1⟩ hP hD hS)
  · cases h
set_option maxHeartbeats 4000000 in
set_option maxRecDepth 100000 in
theorem rs_irem (C : rvCx p s m args meth c cc own mL D cT ex A ini sc) {BC BS a1 a2 a3 wi pc kc ks : Nat} {al st : List rvV} {aw : rvH} {o : rvS} (hd : decode cc pc = .ok (.irem, 1)) (hk : rvAux own ini (.irem) a1 a2 wi = true) (hBC : BC ≤ R.cells) (hBS : BS ≤ R.slots)
    (h : rvStep rvTy rvNf rvTxt sc BC BS mL (.irem) a1 a2 a3 pc al st aw kc ks = some o) (k : rvG p l e R s m args below meth c Q D cT ex A mL o) : rvG p l e R s m args below meth c Q D cT ex A mL (pc, al, st, aw, kc, ks) := by
  obtain ⟨hx, hb, hml, hown, hts, hK, hA, hX, hini, hsc⟩ := C
  intro ws H locs ls stk hw hl hs hP hD hS
  dsimp only at hw hl hs ⊢
  simp only [rvStep] at h
  split at h
  · rename_i b a st
    obtain ⟨hc, rfl⟩ := rv_bif h
    obtain ⟨hc1, hc2⟩ := rv_and hc
    obtain ⟨y2, stk2, rfl, ⟨n2, rfl, p2, q2⟩, hs2⟩ := rvRs_cons hs
    obtain ⟨y1, stk1, rfl, ⟨n1, rfl, p1, q1⟩, hs1⟩ := rvRs_cons hs2
    have hne : ¬ n2 = 0 := fun q => by
      obtain ⟨e1, -⟩ := rv_one hc1 p2 q2
      rw [q] at e1
      have e1 : (0 : Int) = b.1 := e1
      rw [← e1] at hc2
      exact absurd hc2 (by decide)
    exact lv_irem hx hb hd hne (k ws H locs ls _ hw hl ⟨rvBin_ok (f := fun x y => x - x / y * y) p1 q1 p2 q2, hs1⟩ hP hD hS)
  · cases h
set_option maxHeartbeats 4000000 in
set_option maxRecDepth 100000 in
theorem rs_i2b (C : rvCx p s m args meth c cc own mL D cT ex A ini sc) {BC BS a1 a2 a3 wi pc kc ks : Nat} {al st : List rvV} {aw : rvH} {o : rvS} (hd : decode cc pc = .ok (.i2b, 1)) (hk : rvAux own ini (.i2b) a1 a2 wi = true) (hBC : BC ≤ R.cells) (hBS : BS ≤ R.slots)
    (h : rvStep rvTy rvNf rvTxt sc BC BS mL (.i2b) a1 a2 a3 pc al st aw kc ks = some o) (k : rvG p l e R s m args below meth c Q D cT ex A mL o) : rvG p l e R s m args below meth c Q D cT ex A mL (pc, al, st, aw, kc, ks) := by
  obtain ⟨hx, hb, hml, hown, hts, hK, hA, hX, hini, hsc⟩ := C
  intro ws H locs ls stk hw hl hs hP hD hS
  dsimp only at hw hl hs ⊢
  simp only [rvStep] at h
  split at h
  · rename_i a st
    cases h
    obtain ⟨y1, stk1, rfl, ⟨n1, rfl, p1, q1⟩, hs1⟩ := rvRs_cons hs
    refine lv_i2b hx hb hd rfl (k ws H locs ls _ hw hl ⟨?_, hs1⟩ hP hD hS)
    cases h1 : rvOne a with
    | true =>
      obtain ⟨-, e1⟩ := rv_one h1 p1 q1
      rw [e1]
      exact rvR_K rfl
    | false =>
      refine ⟨_, rfl, ?_, ?_⟩
      · rw [Int8.toInt_toInt32]
        exact Int8.le_toInt _
      · rw [Int8.toInt_toInt32]
        have := Int8.toInt_lt n1.toInt8
        show _ ≤ (127 : Int)
        omega
  · cases h
set_option maxHeartbeats 4000000 in
set_option maxRecDepth 100000 in
theorem rs_i2c (C : rvCx p s m args meth c cc own mL D cT ex A ini sc) {BC BS a1 a2 a3 wi pc kc ks : Nat} {al st : List rvV} {aw : rvH} {o : rvS} (hd : decode cc pc = .ok (.i2c, 1)) (hk : rvAux own ini (.i2c) a1 a2 wi = true) (hBC : BC ≤ R.cells) (hBS : BS ≤ R.slots)
    (h : rvStep rvTy rvNf rvTxt sc BC BS mL (.i2c) a1 a2 a3 pc al st aw kc ks = some o) (k : rvG p l e R s m args below meth c Q D cT ex A mL o) : rvG p l e R s m args below meth c Q D cT ex A mL (pc, al, st, aw, kc, ks) := by
  obtain ⟨hx, hb, hml, hown, hts, hK, hA, hX, hini, hsc⟩ := C
  intro ws H locs ls stk hw hl hs hP hD hS
  dsimp only at hw hl hs ⊢
  simp only [rvStep] at h
  split at h
  · rename_i a st
    cases h
    obtain ⟨y1, stk1, rfl, ⟨n1, rfl, p1, q1⟩, hs1⟩ := rvRs_cons hs
    refine lv_i2c hx hb hd rfl (k ws H locs ls _ hw hl ⟨?_, hs1⟩ hP hD hS)
    cases h1 : rvOne a with
    | true =>
      obtain ⟨-, e1⟩ := rv_one h1 p1 q1
      rw [e1]
      exact rvR_K rfl
    | false =>
      refine ⟨_, rfl, ?_, ?_⟩
      · rw [pk_char, nI_toInt (by omega)]
        show (0 : Int) ≤ _
        omega
      · rw [pk_char, nI_toInt (by omega)]
        show _ ≤ (65535 : Int)
        omega
  · cases h
set_option maxHeartbeats 4000000 in
set_option maxRecDepth 100000 in
theorem rs_i2l (C : rvCx p s m args meth c cc own mL D cT ex A ini sc) {BC BS a1 a2 a3 wi pc kc ks : Nat} {al st : List rvV} {aw : rvH} {o : rvS} (hd : decode cc pc = .ok (.i2l, 1)) (hk : rvAux own ini (.i2l) a1 a2 wi = true) (hBC : BC ≤ R.cells) (hBS : BS ≤ R.slots)
    (h : rvStep rvTy rvNf rvTxt sc BC BS mL (.i2l) a1 a2 a3 pc al st aw kc ks = some o) (k : rvG p l e R s m args below meth c Q D cT ex A mL o) : rvG p l e R s m args below meth c Q D cT ex A mL (pc, al, st, aw, kc, ks) := by
  obtain ⟨hx, hb, hml, hown, hts, hK, hA, hX, hini, hsc⟩ := C
  intro ws H locs ls stk hw hl hs hP hD hS
  dsimp only at hw hl hs ⊢
  simp only [rvStep] at h
  split at h
  · rename_i a st
    cases h
    obtain ⟨y1, stk1, rfl, ⟨n1, rfl, p1, q1⟩, hs1⟩ := rvRs_cons hs
    exact lv_i2l hx hb hd rfl (k ws H locs ls _ hw hl ⟨⟨_, rfl⟩, hs1⟩ hP hD hS)
  · cases h
set_option maxHeartbeats 4000000 in
set_option maxRecDepth 100000 in
theorem rs_lor (C : rvCx p s m args meth c cc own mL D cT ex A ini sc) {BC BS a1 a2 a3 wi pc kc ks : Nat} {al st : List rvV} {aw : rvH} {o : rvS} (hd : decode cc pc = .ok (.lor, 1)) (hk : rvAux own ini (.lor) a1 a2 wi = true) (hBC : BC ≤ R.cells) (hBS : BS ≤ R.slots)
    (h : rvStep rvTy rvNf rvTxt sc BC BS mL (.lor) a1 a2 a3 pc al st aw kc ks = some o) (k : rvG p l e R s m args below meth c Q D cT ex A mL o) : rvG p l e R s m args below meth c Q D cT ex A mL (pc, al, st, aw, kc, ks) := by
  obtain ⟨hx, hb, hml, hown, hts, hK, hA, hX, hini, hsc⟩ := C
  intro ws H locs ls stk hw hl hs hP hD hS
  dsimp only at hw hl hs ⊢
  simp only [rvStep] at h
  split at h
  · rename_i z1 z2 st
    cases h
    obtain ⟨y2, stk2, rfl, ⟨n2, rfl⟩, hs2⟩ := rvRs_cons hs
    obtain ⟨y1, stk1, rfl, ⟨n1, rfl⟩, hs1⟩ := rvRs_cons hs2
    exact lv_lor hx hb hd (k ws H locs ls _ hw hl ⟨⟨_, rfl⟩, hs1⟩ hP hD hS)
  · cases h
set_option maxHeartbeats 4000000 in
set_option maxRecDepth 100000 in
theorem rs_lshl (C : rvCx p s m args meth c cc own mL D cT ex A ini sc) {BC BS a1 a2 a3 wi pc kc ks : Nat} {al st : List rvV} {aw : rvH} {o : rvS} (hd : decode cc pc = .ok (.lshl, 1)) (hk : rvAux own ini (.lshl) a1 a2 wi = true) (hBC : BC ≤ R.cells) (hBS : BS ≤ R.slots)
    (h : rvStep rvTy rvNf rvTxt sc BC BS mL (.lshl) a1 a2 a3 pc al st aw kc ks = some o) (k : rvG p l e R s m args below meth c Q D cT ex A mL o) : rvG p l e R s m args below meth c Q D cT ex A mL (pc, al, st, aw, kc, ks) := by
  obtain ⟨hx, hb, hml, hown, hts, hK, hA, hX, hini, hsc⟩ := C
  intro ws H locs ls stk hw hl hs hP hD hS
  dsimp only at hw hl hs ⊢
  simp only [rvStep] at h
  split at h
  · rename_i z1 z2 st
    cases h
    obtain ⟨y2, stk2, rfl, ⟨n2, rfl, p2, q2⟩, hs2⟩ := rvRs_cons hs
    obtain ⟨y1, stk1, rfl, ⟨n1, rfl⟩, hs1⟩ := rvRs_cons hs2
    exact lv_lshl hx hb hd rfl (k ws H locs ls _ hw hl ⟨⟨_, rfl⟩, hs1⟩ hP hD hS)
  · cases h
set_option maxHeartbeats 4000000 in
set_option maxRecDepth 100000 in
theorem rs_dup (C : rvCx p s m args meth c cc own mL D cT ex A ini sc) {BC BS a1 a2 a3 wi pc kc ks : Nat} {al st : List rvV} {aw : rvH} {o : rvS} (hd : decode cc pc = .ok (.dup, 1)) (hk : rvAux own ini (.dup) a1 a2 wi = true) (hBC : BC ≤ R.cells) (hBS : BS ≤ R.slots)
    (h : rvStep rvTy rvNf rvTxt sc BC BS mL (.dup) a1 a2 a3 pc al st aw kc ks = some o) (k : rvG p l e R s m args below meth c Q D cT ex A mL o) : rvG p l e R s m args below meth c Q D cT ex A mL (pc, al, st, aw, kc, ks) := by
  obtain ⟨hx, hb, hml, hown, hts, hK, hA, hX, hini, hsc⟩ := C
  intro ws H locs ls stk hw hl hs hP hD hS
  dsimp only at hw hl hs ⊢
  simp only [rvStep] at h
  split at h
  · rename_i v st
    obtain ⟨hc, rfl⟩ := rv_nbif h
    obtain ⟨x, stk1, rfl, hx2, hs1⟩ := rvRs_cons hs
    have hc1 := rvR_cat hx2
    rw [hc] at hc1
    exact lv_dup hx hb hd hc1 (k ws H locs ls _ hw hl ⟨hx2, hx2, hs1⟩ hP hD hS)
  · cases h
set_option maxHeartbeats 4000000 in
set_option maxRecDepth 100000 in
theorem rs_pop (C : rvCx p s m args meth c cc own mL D cT ex A ini sc) {BC BS a1 a2 a3 wi pc kc ks : Nat} {al st : List rvV} {aw : rvH} {o : rvS} (hd : decode cc pc = .ok (.pop, 1)) (hk : rvAux own ini (.pop) a1 a2 wi = true) (hBC : BC ≤ R.cells) (hBS : BS ≤ R.slots)
    (h : rvStep rvTy rvNf rvTxt sc BC BS mL (.pop) a1 a2 a3 pc al st aw kc ks = some o) (k : rvG p l e R s m args below meth c Q D cT ex A mL o) : rvG p l e R s m args below meth c Q D cT ex A mL (pc, al, st, aw, kc, ks) := by
  obtain ⟨hx, hb, hml, hown, hts, hK, hA, hX, hini, hsc⟩ := C
  intro ws H locs ls stk hw hl hs hP hD hS
  dsimp only at hw hl hs ⊢
  simp only [rvStep] at h
  split at h
  · rename_i v st
    obtain ⟨hc, rfl⟩ := rv_nbif h
    obtain ⟨x, stk1, rfl, hx2, hs1⟩ := rvRs_cons hs
    have hc1 := rvR_cat hx2
    rw [hc] at hc1
    exact lv_pop hx hb hd hc1 (k ws H locs ls _ hw hl hs1 hP hD hS)
  · cases h
set_option maxHeartbeats 4000000 in
set_option maxRecDepth 100000 in
theorem rs_dup_x1 (C : rvCx p s m args meth c cc own mL D cT ex A ini sc) {BC BS a1 a2 a3 wi pc kc ks : Nat} {al st : List rvV} {aw : rvH} {o : rvS} (hd : decode cc pc = .ok (.dup_x1, 1)) (hk : rvAux own ini (.dup_x1) a1 a2 wi = true) (hBC : BC ≤ R.cells) (hBS : BS ≤ R.slots)
    (h : rvStep rvTy rvNf rvTxt sc BC BS mL (.dup_x1) a1 a2 a3 pc al st aw kc ks = some o) (k : rvG p l e R s m args below meth c Q D cT ex A mL o) : rvG p l e R s m args below meth c Q D cT ex A mL (pc, al, st, aw, kc, ks) := by
  obtain ⟨hx, hb, hml, hown, hts, hK, hA, hX, hini, hsc⟩ := C
  intro ws H locs ls stk hw hl hs hP hD hS
  dsimp only at hw hl hs ⊢
  simp only [rvStep] at h
  split at h
  · rename_i v w st
    obtain ⟨hc, rfl⟩ := rv_nbif h
    obtain ⟨hc1, hc2⟩ := rv_or hc
    obtain ⟨x, stk1, rfl, hx2, hs1⟩ := rvRs_cons hs
    obtain ⟨y, stk2, rfl, hy2, hs2⟩ := rvRs_cons hs1
    have hd1 := rvR_cat hx2
    rw [hc1] at hd1
    have hd2 := rvR_cat hy2
    rw [hc2] at hd2
    exact lv_dup_x1 hx hb hd hd1 hd2 (k ws H locs ls _ hw hl ⟨hx2, hy2, hx2, hs2⟩ hP hD hS)
  · cases h
set_option maxHeartbeats 4000000 in
set_option maxRecDepth 100000 in
theorem rs_dup2 (C : rvCx p s m args meth c cc own mL D cT ex A ini sc) {BC BS a1 a2 a3 wi pc kc ks : Nat} {al st : List rvV} {aw : rvH} {o : rvS} (hd : decode cc pc = .ok (.dup2, 1)) (hk : rvAux own ini (.dup2) a1 a2 wi = true) (hBC : BC ≤ R.cells) (hBS : BS ≤ R.slots)
    (h : rvStep rvTy rvNf rvTxt sc BC BS mL (.dup2) a1 a2 a3 pc al st aw kc ks = some o) (k : rvG p l e R s m args below meth c Q D cT ex A mL o) : rvG p l e R s m args below meth c Q D cT ex A mL (pc, al, st, aw, kc, ks) := by
  obtain ⟨hx, hb, hml, hown, hts, hK, hA, hX, hini, hsc⟩ := C
  intro ws H locs ls stk hw hl hs hP hD hS
  dsimp only at hw hl hs ⊢
  simp only [rvStep] at h
  split at h
  · rename_i v w st
    obtain ⟨hc, rfl⟩ := rv_nbif h
    obtain ⟨hc1, hc2⟩ := rv_or hc
    obtain ⟨x, stk1, rfl, hx2, hs1⟩ := rvRs_cons hs
    obtain ⟨y, stk2, rfl, hy2, hs2⟩ := rvRs_cons hs1
    have hd1 := rvR_cat hx2
    rw [hc1] at hd1
    have hd2 := rvR_cat hy2
    rw [hc2] at hd2
    exact lv_dup2_11 hx hb hd hd1 hd2 (k ws H locs ls _ hw hl ⟨hx2, hy2, hx2, hy2, hs2⟩ hP hD hS)
  · cases h
set_option maxHeartbeats 4000000 in
set_option maxRecDepth 100000 in
theorem rs_if_icmp (C : rvCx p s m args meth c cc own mL D cT ex A ini sc) {BC BS a1 a2 a3 wi pc kc ks : Nat} {cd : ClassFile.Cond} {off : Int} {al st : List rvV} {aw : rvH} {o : rvS} (hd : decode cc pc = .ok (.if_icmp cd off, 3)) (hk : rvAux own ini (.if_icmp cd off) a1 a2 wi = true) (hBC : BC ≤ R.cells) (hBS : BS ≤ R.slots)
    (h : rvStep rvTy rvNf rvTxt sc BC BS mL (.if_icmp cd off) a1 a2 a3 pc al st aw kc ks = some o) (k : rvG p l e R s m args below meth c Q D cT ex A mL o) : rvG p l e R s m args below meth c Q D cT ex A mL (pc, al, st, aw, kc, ks) := by
  obtain ⟨hx, hb, hml, hown, hts, hK, hA, hX, hini, hsc⟩ := C
  intro ws H locs ls stk hw hl hs hP hD hS
  dsimp only at hw hl hs ⊢
  simp only [rvStep] at h
  split at h
  · rename_i b a st
    split at h
    · rename_i t hc ht
      cases h
      obtain ⟨y2, stk2, rfl, ⟨n2, rfl, p2, q2⟩, hs2⟩ := rvRs_cons hs
      obtain ⟨y1, stk1, rfl, ⟨n1, rfl, p1, q1⟩, hs1⟩ := rvRs_cons hs2
      cases cd
      case eq => exact lv_icmp_eq hx hb hd (rvJ_ok ht) (fun _ => k ws H locs ls _ hw hl hs1 hP hD hS) (fun q => absurd ((rvC_eq hc p1 q1 p2 q2).mpr rfl) q)
      case ne => exact lv_icmp_ne hx hb hd (rvJ_ok ht) (fun _ => k ws H locs ls _ hw hl hs1 hP hD hS) (fun q => absurd q ((rvC_ne hc p1 q1 p2 q2).mpr rfl))
      case lt => exact lv_icmp_lt hx hb hd (rvJ_ok ht) (fun _ => k ws H locs ls _ hw hl hs1 hP hD hS) (fun q => absurd ((rvC_lt hc p1 q1 p2 q2).mpr rfl) q)
      case ge => exact lv_icmp_ge hx hb hd (rvJ_ok ht) (fun _ => k ws H locs ls _ hw hl hs1 hP hD hS) (fun q => absurd ((rvC_ge hc p1 q1 p2 q2).mpr rfl) q)
      case gt => exact lv_icmp_gt hx hb hd (rvJ_ok ht) (fun _ => k ws H locs ls _ hw hl hs1 hP hD hS) (fun q => absurd ((rvC_gt hc p1 q1 p2 q2).mpr rfl) q)
      case le => exact lv_icmp_le hx hb hd (rvJ_ok ht) (fun _ => k ws H locs ls _ hw hl hs1 hP hD hS) (fun q => absurd ((rvC_le hc p1 q1 p2 q2).mpr rfl) q)
    · rename_i t hc ht
      cases h
      obtain ⟨y2, stk2, rfl, ⟨n2, rfl, p2, q2⟩, hs2⟩ := rvRs_cons hs
      obtain ⟨y1, stk1, rfl, ⟨n1, rfl, p1, q1⟩, hs1⟩ := rvRs_cons hs2
      cases cd
      case eq => exact lv_icmp_eq hx hb hd (rvJ_ok ht) (fun q => absurd ((rvC_eq hc p1 q1 p2 q2).mp q) (by decide)) (fun _ => k ws H locs ls _ hw hl hs1 hP hD hS)
      case ne => exact lv_icmp_ne hx hb hd (rvJ_ok ht) (fun q => absurd ((rvC_ne hc p1 q1 p2 q2).mp q) (by decide)) (fun _ => k ws H locs ls _ hw hl hs1 hP hD hS)
      case lt => exact lv_icmp_lt hx hb hd (rvJ_ok ht) (fun q => absurd ((rvC_lt hc p1 q1 p2 q2).mp q) (by decide)) (fun _ => k ws H locs ls _ hw hl hs1 hP hD hS)
      case ge => exact lv_icmp_ge hx hb hd (rvJ_ok ht) (fun q => absurd ((rvC_ge hc p1 q1 p2 q2).mp q) (by decide)) (fun _ => k ws H locs ls _ hw hl hs1 hP hD hS)
      case gt => exact lv_icmp_gt hx hb hd (rvJ_ok ht) (fun q => absurd ((rvC_gt hc p1 q1 p2 q2).mp q) (by decide)) (fun _ => k ws H locs ls _ hw hl hs1 hP hD hS)
      case le => exact lv_icmp_le hx hb hd (rvJ_ok ht) (fun q => absurd ((rvC_le hc p1 q1 p2 q2).mp q) (by decide)) (fun _ => k ws H locs ls _ hw hl hs1 hP hD hS)
    · cases h
  · cases h
set_option maxHeartbeats 4000000 in
set_option maxRecDepth 100000 in
theorem rs_ifCond (C : rvCx p s m args meth c cc own mL D cT ex A ini sc) {BC BS a1 a2 a3 wi pc kc ks : Nat} {cd : ClassFile.Cond} {off : Int} {al st : List rvV} {aw : rvH} {o : rvS} (hd : decode cc pc = .ok (.ifCond cd off, 3)) (hk : rvAux own ini (.ifCond cd off) a1 a2 wi = true) (hBC : BC ≤ R.cells) (hBS : BS ≤ R.slots)
    (h : rvStep rvTy rvNf rvTxt sc BC BS mL (.ifCond cd off) a1 a2 a3 pc al st aw kc ks = some o) (k : rvG p l e R s m args below meth c Q D cT ex A mL o) : rvG p l e R s m args below meth c Q D cT ex A mL (pc, al, st, aw, kc, ks) := by
  obtain ⟨hx, hb, hml, hown, hts, hK, hA, hX, hini, hsc⟩ := C
  intro ws H locs ls stk hw hl hs hP hD hS
  dsimp only at hw hl hs ⊢
  simp only [rvStep] at h
  split at h
  · rename_i a st
    split at h
    · rename_i t hc ht
      cases h
      have p2 : ((0 : Int), (0 : Int)).1 ≤ (0 : Int32).toInt := Int.le_refl 0
      have q2 : (0 : Int32).toInt ≤ ((0 : Int), (0 : Int)).2 := Int.le_refl 0
      obtain ⟨y1, stk1, rfl, ⟨n1, rfl, p1, q1⟩, hs1⟩ := rvRs_cons hs
      cases cd
      case eq => exact lv_if_eq hx hb hd (rvJ_ok ht) (fun _ => k ws H locs ls _ hw hl hs1 hP hD hS) (fun q => absurd ((rvC_eq hc p1 q1 p2 q2).mpr rfl) q)
      case ne => exact lv_if_ne hx hb hd (rvJ_ok ht) (fun _ => k ws H locs ls _ hw hl hs1 hP hD hS) (fun q => absurd q ((rvC_ne hc p1 q1 p2 q2).mpr rfl))
      case lt => exact lv_if_lt hx hb hd (rvJ_ok ht) (fun _ => k ws H locs ls _ hw hl hs1 hP hD hS) (fun q => absurd ((rvC_lt hc p1 q1 p2 q2).mpr rfl) q)
      case ge => exact lv_if_ge hx hb hd (rvJ_ok ht) (fun _ => k ws H locs ls _ hw hl hs1 hP hD hS) (fun q => absurd ((rvC_ge hc p1 q1 p2 q2).mpr rfl) q)
      case gt => exact lv_if_gt hx hb hd (rvJ_ok ht) (fun _ => k ws H locs ls _ hw hl hs1 hP hD hS) (fun q => absurd ((rvC_gt hc p1 q1 p2 q2).mpr rfl) q)
      case le => exact lv_if_le hx hb hd (rvJ_ok ht) (fun _ => k ws H locs ls _ hw hl hs1 hP hD hS) (fun q => absurd ((rvC_le hc p1 q1 p2 q2).mpr rfl) q)
    · rename_i t hc ht
      cases h
      have p2 : ((0 : Int), (0 : Int)).1 ≤ (0 : Int32).toInt := Int.le_refl 0
      have q2 : (0 : Int32).toInt ≤ ((0 : Int), (0 : Int)).2 := Int.le_refl 0
      obtain ⟨y1, stk1, rfl, ⟨n1, rfl, p1, q1⟩, hs1⟩ := rvRs_cons hs
      cases cd
      case eq => exact lv_if_eq hx hb hd (rvJ_ok ht) (fun q => absurd ((rvC_eq hc p1 q1 p2 q2).mp q) (by decide)) (fun _ => k ws H locs ls _ hw hl hs1 hP hD hS)
      case ne => exact lv_if_ne hx hb hd (rvJ_ok ht) (fun q => absurd ((rvC_ne hc p1 q1 p2 q2).mp q) (by decide)) (fun _ => k ws H locs ls _ hw hl hs1 hP hD hS)
      case lt => exact lv_if_lt hx hb hd (rvJ_ok ht) (fun q => absurd ((rvC_lt hc p1 q1 p2 q2).mp q) (by decide)) (fun _ => k ws H locs ls _ hw hl hs1 hP hD hS)
      case ge => exact lv_if_ge hx hb hd (rvJ_ok ht) (fun q => absurd ((rvC_ge hc p1 q1 p2 q2).mp q) (by decide)) (fun _ => k ws H locs ls _ hw hl hs1 hP hD hS)
      case gt => exact lv_if_gt hx hb hd (rvJ_ok ht) (fun q => absurd ((rvC_gt hc p1 q1 p2 q2).mp q) (by decide)) (fun _ => k ws H locs ls _ hw hl hs1 hP hD hS)
      case le => exact lv_if_le hx hb hd (rvJ_ok ht) (fun q => absurd ((rvC_le hc p1 q1 p2 q2).mp q) (by decide)) (fun _ => k ws H locs ls _ hw hl hs1 hP hD hS)
    · cases h
  · cases h
end RVS
end
section
section RVH
variable {p : Program} {l : Launch} {e : Env} {R : Room} {s : State} {m : MethodId} {args : Array Value} {below : List Frame} {meth : Method} {c : Code} {Q : State → Prop} {cc : ByteArray} {own : String} {mL : Nat} {D : va_G} {cT : Nat → ClassId} {ex : Nat → Nat → Nat} {A : Nat → Prop} {sc : List (Int × Int)} {ini : Bool}
set_option maxHeartbeats 4000000 in
set_option maxRecDepth 100000 in
theorem rs_goto (C : rvCx p s m args meth c cc own mL D cT ex A ini sc) {BC BS a1 a2 a3 wi pc kc ks : Nat} {off : Int} {al st : List rvV} {aw : rvH} {o : rvS} (hd : decode cc pc = .ok (.goto off, 3)) (hk : rvAux own ini (.goto off) a1 a2 wi = true) (hBC : BC ≤ R.cells) (hBS : BS ≤ R.slots)
    (h : rvStep rvTy rvNf rvTxt sc BC BS mL (.goto off) a1 a2 a3 pc al st aw kc ks = some o) (k : rvG p l e R s m args below meth c Q D cT ex A mL o) : rvG p l e R s m args below meth c Q D cT ex A mL (pc, al, st, aw, kc, ks) := by
  obtain ⟨hx, hb, hml, hown, hts, hK, hA, hX, hini, hsc⟩ := C
  intro ws H locs ls stk hw hl hs hP hD hS
  dsimp only at hw hl hs ⊢
  simp only [rvStep] at h
  split at h
  · rename_i t ht
    cases h
    exact lv_goto hx hb hd (rvJ_ok ht) (k ws H locs ls _ hw hl hs hP hD hS)
  · cases h
set_option maxHeartbeats 4000000 in
set_option maxRecDepth 100000 in
theorem rs_ifnull (C : rvCx p s m args meth c cc own mL D cT ex A ini sc) {BC BS a1 a2 a3 wi pc kc ks : Nat} {off : Int} {al st : List rvV} {aw : rvH} {o : rvS} (hd : decode cc pc = .ok (.ifnull off, 3)) (hk : rvAux own ini (.ifnull off) a1 a2 wi = true) (hBC : BC ≤ R.cells) (hBS : BS ≤ R.slots)
    (h : rvStep rvTy rvNf rvTxt sc BC BS mL (.ifnull off) a1 a2 a3 pc al st aw kc ks = some o) (k : rvG p l e R s m args below meth c Q D cT ex A mL o) : rvG p l e R s m args below meth c Q D cT ex A mL (pc, al, st, aw, kc, ks) := by
  obtain ⟨hx, hb, hml, hown, hts, hK, hA, hX, hini, hsc⟩ := C
  intro ws H locs ls stk hw hl hs hP hD hS
  dsimp only at hw hl hs ⊢
  simp only [rvStep] at h
  split at h
  · rename_i z st
    cases h
    obtain ⟨x, stk1, rfl, ⟨q, hq, rfl⟩, hs1⟩ := rvRs_cons hs
    exact lv_ifnull hx hb hd (k ws H locs ls _ hw hl hs1 hP hD hS)
  · rename_i z st
    split at h
    · rename_i t ht
      cases h
      obtain ⟨x, stk1, rfl, hx2, hs1⟩ := rvRs_cons hs
      cases hx2
      exact lv_ifnullN hx hb hd (rvJ_ok ht) (k ws H locs ls _ hw hl hs1 hP hD hS)
    · cases h
  · cases h
set_option maxHeartbeats 4000000 in
set_option maxRecDepth 100000 in
theorem rs_ifnonnull (C : rvCx p s m args meth c cc own mL D cT ex A ini sc) {BC BS a1 a2 a3 wi pc kc ks : Nat} {off : Int} {al st : List rvV} {aw : rvH} {o : rvS} (hd : decode cc pc = .ok (.ifnonnull off, 3)) (hk : rvAux own ini (.ifnonnull off) a1 a2 wi = true) (hBC : BC ≤ R.cells) (hBS : BS ≤ R.slots)
    (h : rvStep rvTy rvNf rvTxt sc BC BS mL (.ifnonnull off) a1 a2 a3 pc al st aw kc ks = some o) (k : rvG p l e R s m args below meth c Q D cT ex A mL o) : rvG p l e R s m args below meth c Q D cT ex A mL (pc, al, st, aw, kc, ks) := by
  obtain ⟨hx, hb, hml, hown, hts, hK, hA, hX, hini, hsc⟩ := C
  intro ws H locs ls stk hw hl hs hP hD hS
  dsimp only at hw hl hs ⊢
  simp only [rvStep] at h
  split at h
  · rename_i z st
    cases h
    obtain ⟨x, stk1, rfl, hx2, hs1⟩ := rvRs_cons hs
    cases hx2
    exact lv_ifnonnullN hx hb hd (k ws H locs ls _ hw hl hs1 hP hD hS)
  · rename_i z st
    split at h
    · rename_i t ht
      cases h
      obtain ⟨x, stk1, rfl, ⟨q, hq, rfl⟩, hs1⟩ := rvRs_cons hs
      exact lv_ifnonnull hx hb hd (rvJ_ok ht) (k ws H locs ls _ hw hl hs1 hP hD hS)
    · cases h
  · cases h
set_option maxHeartbeats 4000000 in
set_option maxRecDepth 100000 in
theorem rs_tableswitch (C : rvCx p s m args meth c cc own mL D cT ex A ini sc) {BC BS a1 a2 a3 wi pc kc ks len : Nat} {dflt lo hi : Int} {offs : Array Int} {al st : List rvV} {aw : rvH} {o : rvS} (hd : decode cc pc = .ok (.tableswitch dflt lo hi offs, len)) (hk : rvAux own ini (.tableswitch dflt lo hi offs) a1 a2 wi = true) (hBC : BC ≤ R.cells) (hBS : BS ≤ R.slots)
    (h : rvStep rvTy rvNf rvTxt sc BC BS mL (.tableswitch dflt lo hi offs) a1 a2 a3 pc al st aw kc ks = some o) (k : rvG p l e R s m args below meth c Q D cT ex A mL o) : rvG p l e R s m args below meth c Q D cT ex A mL (pc, al, st, aw, kc, ks) := by
  obtain ⟨hx, hb, hml, hown, hts, hK, hA, hX, hini, hsc⟩ := C
  intro ws H locs ls stk hw hl hs hP hD hS
  dsimp only at hw hl hs ⊢
  simp only [rvStep] at h
  split at h
  · rename_i a st
    obtain ⟨x, stk1, rfl, ⟨n1, rfl, p1, q1⟩, hs1⟩ := rvRs_cons hs
    cases hc : (decide (a.2 < lo) || decide (hi < a.1)) with
    | true =>
      rw [hc] at h
      simp only [cond_true] at h
      split at h
      · rename_i t ht
        cases h
        refine lv_tableOut hx hb hd ?_ (rvJ_ok ht) (k ws H locs ls _ hw hl hs1 hP hD hS)
        rcases rv_or' hc with q | q
        · have := of_decide_eq_true q
          exact Or.inl (by omega)
        · have := of_decide_eq_true q
          exact Or.inr (by omega)
      · cases h
    | false =>
      rw [hc] at h
      simp only [cond_false] at h
      cases hc2 : (rvOne a && (decide (lo ≤ a.1) && decide (a.1 ≤ hi))) with
      | false => rw [hc2] at h; cases h
      | true =>
        rw [hc2] at h
        simp only [cond_true] at h
        obtain ⟨g1, g2⟩ := rv_and hc2
        obtain ⟨g2, g3⟩ := rv_and g2
        have g2 := of_decide_eq_true g2
        have g3 := of_decide_eq_true g3
        obtain ⟨e1, -⟩ := rv_one g1 p1 q1
        split at h
        · rename_i off ho
          split at h
          · rename_i t ht
            cases h
            exact lv_tableIn hx hb hd (by omega) (by omega) (by rw [e1]; exact ho) (rvJ_ok ht) (k ws H locs ls _ hw hl hs1 hP hD hS)
          · cases h
        · cases h
  · cases h
set_option maxHeartbeats 4000000 in
set_option maxRecDepth 100000 in
theorem rs_getfield (C : rvCx p s m args meth c cc own mL D cT ex A ini sc) {BC BS a1 a2 a3 wi pc kc ks idx : Nat} {al st : List rvV} {aw : rvH} {o : rvS} (hd : decode cc pc = .ok (.getfield idx, 3)) (hk : rvAux own ini (.getfield idx) a1 a2 wi = true) (hBC : BC ≤ R.cells) (hBS : BS ≤ R.slots)
    (h : rvStep rvTy rvNf rvTxt sc BC BS mL (.getfield idx) a1 a2 a3 pc al st aw kc ks = some o) (k : rvG p l e R s m args below meth c Q D cT ex A mL o) : rvG p l e R s m args below meth c Q D cT ex A mL (pc, al, st, aw, kc, ks) := by
  obtain ⟨hx, hb, hml, hown, hts, hK, hA, hX, hini, hsc⟩ := C
  intro ws H locs ls stk hw hl hs hP hD hS
  dsimp only at hw hl hs ⊢
  simp only [rvStep] at h
  split at h
  · rename_i k0 st
    obtain ⟨x, stk1, rfl, ⟨q, hq, rfl⟩, hs1⟩ := rvRs_cons hs
    split at h
    · rename_i ci fs hc0
      cases hbe : Nat.beq ci a1 with
      | false => rw [hbe] at h; cases h
      | true =>
        rw [hbe] at h
        simp only [cond_true] at h
        have e1 := rv_beq hbe
        subst e1
        split at h
        · rename_i w hw0
          cases h
          obtain ⟨⟨a, e0⟩, hq1, vs, he, hvs⟩ := rvWo_get hw hc0
          have he : e0 = .inr (ci, vs) := he
          subst he
          have hqa := rvAd_ref hq1 hq
          subst hqa
          obtain ⟨y, hy1, hy2⟩ := rvRs_get hvs hw0
          cases hq2 : Nat.beq ci 100 with
          | true =>
            obtain ⟨r, hr, -⟩ := hP k0 _ hq1
            rw [show ci = 100 from rv_beq hq2] at hr
            exact absurd hr (by rw [rvCl_none (by omega)]; exact fun z => by cases z)
          | false =>
            have hk : (bif Nat.beq ci 100 then (bif Nat.beq a2 0 then rvW wi (.fieldLink own idx "java/lang/String" "value" "[B") else rvW wi (.fieldLink own idx "java/lang/String" "coder" "B")) else Nat.blt ci 13 && (Nat.blt a2 (rvNf ci) && rvW wi (.fieldLink own idx (rvFt ci a2).1 (rvFt ci a2).2.1 (rvFt ci a2).2.2.1))) = true := hk
            rw [hq2] at hk
            obtain ⟨g1, g2⟩ := rv_and (show (Nat.blt ci 13 && (Nat.blt a2 (rvNf ci) && rvW wi (.fieldLink own idx (rvFt ci a2).1 (rvFt ci a2).2.1 (rvFt ci a2).2.2.1))) = true from hk)
            obtain ⟨g2, g3⟩ := rv_and g2
            obtain ⟨⟨-, -, hin, -⟩, hcl, -⟩ := rvCl ci (rv_blt g1)
            exact va_get (D := D) hx hb hts hin hown hK hP k0 hq1 hcl a2 (rv_blt g2) (hts _ (rvW_ok g3)) (fun _ h9 => h9) hy1 hd (k ws H locs ls _ hw hl ⟨hy2, hs1⟩ hP hD hS)
        · cases h
    · cases h
  · rename_i j st
    obtain ⟨hc, rfl⟩ := rv_bif h
    obtain ⟨x, stk1, rfl, hx2, hs1⟩ := rvRs_cons hs
    have hx2 : x = .ref (ex 3 j) := hx2
    subst hx2
    have hj := rv_beq (rv_and hc).2
    subst hj
    have hc1 : Nat.beq a1 100 = true := (rv_and hc).1
    have hk : (bif Nat.beq a1 100 then (bif Nat.beq a2 0 then rvW wi (.fieldLink own idx "java/lang/String" "value" "[B") else rvW wi (.fieldLink own idx "java/lang/String" "coder" "B")) else Nat.blt a1 13 && (Nat.blt a2 (rvNf a1) && rvW wi (.fieldLink own idx (rvFt a1 a2).1 (rvFt a1 a2).2.1 (rvFt a1 a2).2.2.1))) = true := hk
    rw [hc1] at hk
    simp only [cond_true] at hk
    obtain ⟨-, -, -, -, hSt, -⟩ := hX
    obtain ⟨-, hco, hva, -⟩ := hSt.1 0 (by decide)
    cases h2 : Nat.beq a2 0 with
    | true =>
      rw [h2] at hk k
      exact vk_getf hx hb hva hS hown (hts _ (rvW_ok hk)) (fun _ h9 => h9) hd (k ws H locs ls _ hw hl ⟨rfl, hs1⟩ hP hD hS)
    | false =>
      rw [h2] at hk k
      exact vk_getf hx hb hco hS hown (hts _ (rvW_ok hk)) (fun _ h9 => h9) hd (k ws H locs ls _ hw hl ⟨rvR_K rfl, hs1⟩ hP hD hS)
  · cases h
set_option maxHeartbeats 4000000 in
set_option maxRecDepth 100000 in
theorem rs_putfield (C : rvCx p s m args meth c cc own mL D cT ex A ini sc) {BC BS a1 a2 a3 wi pc kc ks idx : Nat} {al st : List rvV} {aw : rvH} {o : rvS} (hd : decode cc pc = .ok (.putfield idx, 3)) (hk : rvAux own ini (.putfield idx) a1 a2 wi = true) (hBC : BC ≤ R.cells) (hBS : BS ≤ R.slots)
    (h : rvStep rvTy rvNf rvTxt sc BC BS mL (.putfield idx) a1 a2 a3 pc al st aw kc ks = some o) (k : rvG p l e R s m args below meth c Q D cT ex A mL o) : rvG p l e R s m args below meth c Q D cT ex A mL (pc, al, st, aw, kc, ks) := by
  obtain ⟨hx, hb, hml, hown, hts, hK, hA, hX, hini, hsc⟩ := C
  intro ws H locs ls stk hw hl hs hP hD hS
  dsimp only at hw hl hs ⊢
  simp only [rvStep] at h
  split at h
  · rename_i v k0 st
    obtain ⟨x, stk1, rfl, hx2, hs1⟩ := rvRs_cons hs
    obtain ⟨x1, stk2, rfl, ⟨q, hq, rfl⟩, hs2⟩ := rvRs_cons hs1
    split at h
    · rename_i ci fs hc0
      obtain ⟨hc, rfl⟩ := rv_bif h
      obtain ⟨c1, c2⟩ := rv_and hc
      obtain ⟨c2, c3⟩ := rv_and c2
      have e1 := rv_beq c1
      subst e1
      obtain ⟨⟨a, e0⟩, hq1, vs, he, hvs⟩ := rvWo_get hw hc0
      have he : e0 = .inr (ci, vs) := he
      subst he
      have hqa := rvAd_ref hq1 hq
      subst hqa
      obtain ⟨g1, g2⟩ := rv_and (show (Nat.blt ci 13 && (Nat.blt a2 (rvNf ci) && (rvW wi (.fieldLink own idx (rvFt ci a2).1 (rvFt ci a2).2.1 (rvFt ci a2).2.2.1) && (!(rvFt ci a2).2.2.2 || (ini && decide ((rvFt ci a2).1 = own)))))) = true from hk)
      obtain ⟨g2, g3⟩ := rv_and g2
      obtain ⟨g3, g4⟩ := rv_and g3
      obtain ⟨⟨-, -, hin, hty⟩, hcl, hnm⟩ := rvCl ci (rv_blt g1)
      obtain ⟨f1, f2⟩ := rvFit_ok c2 hx2
      have hlen : a2 < vs.length := by rw [← rvRs_len hvs]; exact rv_blt c3
      have hnew : ∀ (H1 : Heap) (locs1 : List Loc), va_P D vwCl (ws.set k0 (q, .inr (ci, vs.set a2 x))) H1 → va_D A (ws.set k0 (q, .inr (ci, vs.set a2 x))) → va_S A s.heap H1 locs1 → W p l e R s m args below meth c H1 locs1 kc ks Q (F0 m (pc + 3) ls stk2) := by
        intro H1 locs1 hP1 hD1 hS1
        have ea := rvAd_set (e := .inr (ci, vs.set a2 x)) hq1
        refine k _ H1 locs1 ls stk2 ?_ ?_ ?_ hP1 hD1 hS1
        · rw [ea]
          exact rvWo_set hw ⟨_, rfl, rvRs_set hvs hx2⟩
        · rw [ea]; exact hl
        · rw [ea]; exact hs2
      cases hfin : (rvFt ci a2).2.2.2 with
      | false =>
        exact va_put (D := D) hx hb hts hin (rvTy ci) (fun j hj => (hty j hj).2) hnm hown hK hP hD hS k0 hq1 hcl a2 (rv_blt g2) (hts _ (rvW_ok g3)) (fun _ h9 => h9) hfin (hty a2 (rv_blt g2)).2 f1 f2 hlen hd hnew
      | true =>
        rw [hfin] at g4
        obtain ⟨i1, i2⟩ := rv_and (show (ini && decide ((rvFt ci a2).1 = own)) = true from g4)
        exact va_putF (D := D) hx hb hts hin (rvTy ci) (fun j hj => (hty j hj).2) hnm hown hK hP hD hS k0 hq1 hcl a2 (rv_blt g2) (hts _ (rvW_ok g3)) (fun _ h9 => h9) hfin (hini i1) (of_decide_eq_true i2) (hty a2 (rv_blt g2)).2 f1 f2 hlen hd hnew
    · cases h
  · cases h
set_option maxHeartbeats 4000000 in
set_option maxRecDepth 100000 in
theorem rs_getstatic (C : rvCx p s m args meth c cc own mL D cT ex A ini sc) {BC BS a1 a2 a3 wi pc kc ks idx : Nat} {al st : List rvV} {aw : rvH} {o : rvS} (hd : decode cc pc = .ok (.getstatic idx, 3)) (hk : rvAux own ini (.getstatic idx) a1 a2 wi = true) (hBC : BC ≤ R.cells) (hBS : BS ≤ R.slots)
    (h : rvStep rvTy rvNf rvTxt sc BC BS mL (.getstatic idx) a1 a2 a3 pc al st aw kc ks = some o) (k : rvG p l e R s m args below meth c Q D cT ex A mL o) : rvG p l e R s m args below meth c Q D cT ex A mL (pc, al, st, aw, kc, ks) := by
  obtain ⟨hx, hb, hml, hown, hts, hK, hA, hX, hini, hsc⟩ := C
  intro ws H locs ls stk hw hl hs hP hD hS
  dsimp only at hw hl hs ⊢
  cases h
  obtain ⟨-, -, -, -, -, hZ, hZq⟩ := hX
  have hk : (bif Nat.beq a1 0 then rvW wi (.fieldLink own idx "java/lang/String" "COMPACT_STRINGS" "Z") else rvW wi (.fieldLink own idx "jdk/internal/util/Preconditions" "SIOOBE_FORMATTER" "Ljava/util/function/BiFunction;")) = true := hk
  cases h1 : Nat.beq a1 0 with
  | true =>
    rw [h1] at hk k
    exact va_gets hx hb hZ hS hown (hts _ (rvW_ok hk)) (fun _ h9 => h9) hd (k ws H locs ls _ hw hl ⟨rvR_K rfl, hs⟩ hP hD hS)
  | false =>
    rw [h1] at hk k
    rcases hZq with hZ | ⟨t, hZ⟩
    · exact va_gets hx hb hZ hS hown (hts _ (rvW_ok hk)) (fun _ h9 => h9) hd (k ws H locs ls _ hw hl ⟨Or.inl rfl, hs⟩ hP hD hS)
    · exact va_gets hx hb hZ hS hown (hts _ (rvW_ok hk)) (fun _ h9 => h9) hd (k ws H locs ls _ hw hl ⟨Or.inr ⟨t, rfl⟩, hs⟩ hP hD hS)
set_option maxHeartbeats 4000000 in
set_option maxRecDepth 100000 in
theorem rs_arraylength (C : rvCx p s m args meth c cc own mL D cT ex A ini sc) {BC BS a1 a2 a3 wi pc kc ks : Nat} {al st : List rvV} {aw : rvH} {o : rvS} (hd : decode cc pc = .ok (.arraylength, 1)) (hk : rvAux own ini (.arraylength) a1 a2 wi = true) (hBC : BC ≤ R.cells) (hBS : BS ≤ R.slots)
    (h : rvStep rvTy rvNf rvTxt sc BC BS mL (.arraylength) a1 a2 a3 pc al st aw kc ks = some o) (k : rvG p l e R s m args below meth c Q D cT ex A mL o) : rvG p l e R s m args below meth c Q D cT ex A mL (pc, al, st, aw, kc, ks) := by
  obtain ⟨hx, hb, hml, hown, hts, hK, hA, hX, hini, hsc⟩ := C
  intro ws H locs ls stk hw hl hs hP hD hS
  dsimp only at hw hl hs ⊢
  simp only [rvStep] at h
  split at h
  · rename_i k0 st
    obtain ⟨x, stk1, rfl, ⟨q, hq, rfl⟩, hs1⟩ := rvRs_cons hs
    split at h
    · rename_i q0 n d ov hc0
      obtain ⟨hc, rfl⟩ := rv_bif h
      have hn := rv_blt hc
      obtain ⟨⟨a, e0⟩, hq1, hce⟩ := rvWo_get hw hc0
      have hqa := rvAd_ref hq1 hq
      subst hqa
      have fin : ∀ (t0 : Nat) (cA : ClassId) (ty : FieldType) (z : vp_A), z.1 = n → ws[k0]? = some (q, .inl (cA, z)) → (rvTys cT)[t0]? = some (cA, ty) → W p l e R s m args below meth c H locs kc ks Q (F0 m pc ls (.ref q :: stk1)) := by
        intro t0 cA ty z hz h1 h2
        exact va_alen (D := D) hx hb hK hP k0 t0 h1 h2 (v := Int32.ofNat n) (by rw [hz]) hd (k ws H locs ls _ hw hl ⟨rvR_K (nI_toInt (n := n) hn), hs1⟩ hP hD hS)
      rcases hce with ⟨h0, f, he, -⟩ | ⟨rfl, f, he⟩ | ⟨h0, f, he, -⟩
      · have he : e0 = .inl (cT q0, n, .inl f) := he
        subst he
        match q0, h0, hq1 with
        | 0, _, hq1 => exact fin 0 _ .int _ rfl hq1 rfl
        | 1, _, hq1 => exact fin 1 _ .byte _ rfl hq1 rfl
        | 2, _, hq1 => exact fin 2 _ .boolean _ rfl hq1 rfl
      · have he : e0 = .inl (cT 3, n, .inr (.inl f)) := he
        subst he
        exact fin 3 _ .long _ rfl hq1 rfl
      · have he : e0 = .inl (cT q0, n, .inr (.inr (.inr (.inr f)))) := he
        subst he
        rcases h0 with rfl | rfl
        · exact fin 4 _ (.object RX2) _ rfl hq1 rfl
        · exact fin 5 _ (.object RX6) _ rfl hq1 rfl
    · cases h
  · rename_i j st
    obtain ⟨hc, rfl⟩ := rv_bif h
    have hj := rv_beq hc
    subst hj
    obtain ⟨x, stk1, rfl, hx2, hs1⟩ := rvRs_cons hs
    have hx2 : x = .ref (ex 4 0) := hx2
    subst hx2
    obtain ⟨-, -, -, -, hSt, -⟩ := hX
    obtain ⟨-, -, -, hT⟩ := hSt.1 0 (by decide)
    exact va_tlen (v := Int32.ofNat rvTxt.length) hx hb hT hS rfl hd (k ws H locs ls _ hw hl ⟨rvR_K (by decide +kernel), hs1⟩ hP hD hS)
  · cases h
set_option maxHeartbeats 4000000 in
set_option maxRecDepth 100000 in
theorem rs_iaload (C : rvCx p s m args meth c cc own mL D cT ex A ini sc) {BC BS a1 a2 a3 wi pc kc ks : Nat} {al st : List rvV} {aw : rvH} {o : rvS} (hd : decode cc pc = .ok (.iaload, 1)) (hk : rvAux own ini (.iaload) a1 a2 wi = true) (hBC : BC ≤ R.cells) (hBS : BS ≤ R.slots)
    (h : rvStep rvTy rvNf rvTxt sc BC BS mL (.iaload) a1 a2 a3 pc al st aw kc ks = some o) (k : rvG p l e R s m args below meth c Q D cT ex A mL o) : rvG p l e R s m args below meth c Q D cT ex A mL (pc, al, st, aw, kc, ks) := by
  obtain ⟨hx, hb, hml, hown, hts, hK, hA, hX, hini, hsc⟩ := C
  intro ws H locs ls stk hw hl hs hP hD hS
  dsimp only at hw hl hs ⊢
  simp only [rvStep] at h
  split at h
  · rename_i a0 k0 st
    obtain ⟨y1, stk1, rfl, ⟨n1, rfl, p1, q1⟩, hs1⟩ := rvRs_cons hs
    obtain ⟨x, stk2, rfl, ⟨q, hq, rfl⟩, hs2⟩ := rvRs_cons hs1
    split at h
    · rename_i n d ov hc0
      obtain ⟨⟨a, e0⟩, hq1, hce⟩ := rvWo_get hw hc0
      have hqa := rvAd_ref hq1 hq
      subst hqa
      split at h
      · rename_i j hj
        cases h
        obtain ⟨i1, i2, i3⟩ := rvIdx_ok hj p1 q1
        rcases hce with ⟨-, f, he, hf⟩ | ⟨h0, -⟩ | ⟨h0, -⟩
        · have he : e0 = .inl (cT 0, n, .inl f) := he
          subst he
          exact va_iald (D := D) hx hb hK hP k0 0 hq1 rfl i1 hd (k ws H locs ls _ hw hl ⟨by rw [i2]; exact hf j i3, hs2⟩ hP hD hS)
        · exact absurd h0 (by decide)
        · exact absurd h0 (by decide)
      · cases h
    · cases h
  · rename_i a0 z st
    obtain ⟨y1, stk1, rfl, ⟨n1, rfl, p1, q1⟩, hs1⟩ := rvRs_cons hs
    obtain ⟨x, stk2, rfl, hx2, hs2⟩ := rvRs_cons hs1
    split at h
    · rename_i j hj
      split at h
      · rename_i a ha
        obtain ⟨hc, rfl⟩ := rv_bif h
        obtain ⟨i1, i2, i3⟩ := rvIdx_ok hj p1 q1
        have hz := rv_beq hc
        subst hz
        have hx2 : x = .ref (ex 5 0) := hx2
        subst hx2
        rcases hsc with rfl | ⟨xs, h1, h2, h3, h4⟩
        · simp at ha
        · exact va_sld hx hb h1 h2 h3 hS i1 hd (k ws H locs ls _ hw hl ⟨⟨_, rfl, by rw [i2]; exact (h4 j a ha).1, by rw [i2]; exact (h4 j a ha).2⟩, hs2⟩ hP hD hS)
      · cases h
    · cases h
  · cases h
set_option maxHeartbeats 4000000 in
set_option maxRecDepth 100000 in
theorem rs_baload (C : rvCx p s m args meth c cc own mL D cT ex A ini sc) {BC BS a1 a2 a3 wi pc kc ks : Nat} {al st : List rvV} {aw : rvH} {o : rvS} (hd : decode cc pc = .ok (.baload, 1)) (hk : rvAux own ini (.baload) a1 a2 wi = true) (hBC : BC ≤ R.cells) (hBS : BS ≤ R.slots)
    (h : rvStep rvTy rvNf rvTxt sc BC BS mL (.baload) a1 a2 a3 pc al st aw kc ks = some o) (k : rvG p l e R s m args below meth c Q D cT ex A mL o) : rvG p l e R s m args below meth c Q D cT ex A mL (pc, al, st, aw, kc, ks) := by
  obtain ⟨hx, hb, hml, hown, hts, hK, hA, hX, hini, hsc⟩ := C
  intro ws H locs ls stk hw hl hs hP hD hS
  dsimp only at hw hl hs ⊢
  simp only [rvStep] at h
  split at h
  · rename_i a0 k0 st
    obtain ⟨y1, stk1, rfl, ⟨n1, rfl, p1, q1⟩, hs1⟩ := rvRs_cons hs
    obtain ⟨x, stk2, rfl, ⟨q, hq, rfl⟩, hs2⟩ := rvRs_cons hs1
    split at h
    · rename_i n d ov hc0
      obtain ⟨⟨a, e0⟩, hq1, hce⟩ := rvWo_get hw hc0
      have hqa := rvAd_ref hq1 hq
      subst hqa
      split at h
      · rename_i j hj
        cases h
        obtain ⟨i1, i2, i3⟩ := rvIdx_ok hj p1 q1
        rcases hce with ⟨-, f, he, hf⟩ | ⟨h0, -⟩ | ⟨h0, -⟩
        · have he : e0 = .inl (cT 1, n, .inl f) := he
          subst he
          exact va_bald (D := D) hx hb hK hP k0 1 hq1 rfl i1 hd (k ws H locs ls _ hw hl ⟨by rw [i2]; exact hf j i3, hs2⟩ hP hD hS)
        · exact absurd h0 (by decide)
        · exact absurd h0 (by decide)
      · cases h
    · rename_i n d ov hc0
      obtain ⟨⟨a, e0⟩, hq1, hce⟩ := rvWo_get hw hc0
      have hqa := rvAd_ref hq1 hq
      subst hqa
      split at h
      · rename_i j hj
        cases h
        obtain ⟨i1, i2, i3⟩ := rvIdx_ok hj p1 q1
        rcases hce with ⟨-, f, he, hf⟩ | ⟨h0, -⟩ | ⟨h0, -⟩
        · have he : e0 = .inl (cT 2, n, .inl f) := he
          subst he
          exact va_zald (D := D) hx hb hK hP k0 2 hq1 rfl i1 hd (k ws H locs ls _ hw hl ⟨by rw [i2]; exact hf j i3, hs2⟩ hP hD hS)
        · exact absurd h0 (by decide)
        · exact absurd h0 (by decide)
      · cases h
    · cases h
  · rename_i a0 z st
    obtain ⟨y1, stk1, rfl, ⟨n1, rfl, p1, q1⟩, hs1⟩ := rvRs_cons hs
    obtain ⟨x, stk2, rfl, hx2, hs2⟩ := rvRs_cons hs1
    split at h
    · rename_i j hj
      split at h
      · rename_i b hb0
        obtain ⟨hc, rfl⟩ := rv_bif h
        have hz := rv_beq hc
        subst hz
        obtain ⟨i1, i2, i3⟩ := rvIdx_ok hj p1 q1
        have hx2 : x = .ref (ex 4 0) := hx2
        subst hx2
        obtain ⟨-, -, -, -, hSt, -⟩ := hX
        obtain ⟨-, -, -, hT⟩ := hSt.1 0 (by decide)
        have hval : ((rvTxt.map Int32.ofInt).getD j 0).toInt = b := by
          have e1 : (rvTxt.map Int32.ofInt).getD j 0 = Int32.ofInt b := by
            rw [List.getD_eq_getElem?_getD, List.getElem?_map, hb0]
            rfl
          rw [e1]
          have hall : ∀ z ∈ rvTxt, (Int32.ofInt z).toInt = z := by decide +kernel
          exact hall b (List.mem_of_getElem? hb0)
        exact va_tb hx hb hT hS i1 (v := .int ((rvTxt.map Int32.ofInt).getD j 0)) (by rw [i2]; rfl) hd (k ws H locs ls _ hw hl ⟨rvR_K hval, hs2⟩ hP hD hS)
      · cases h
    · cases h
  · cases h
set_option maxHeartbeats 4000000 in
set_option maxRecDepth 100000 in
theorem rs_laload (C : rvCx p s m args meth c cc own mL D cT ex A ini sc) {BC BS a1 a2 a3 wi pc kc ks : Nat} {al st : List rvV} {aw : rvH} {o : rvS} (hd : decode cc pc = .ok (.laload, 1)) (hk : rvAux own ini (.laload) a1 a2 wi = true) (hBC : BC ≤ R.cells) (hBS : BS ≤ R.slots)
    (h : rvStep rvTy rvNf rvTxt sc BC BS mL (.laload) a1 a2 a3 pc al st aw kc ks = some o) (k : rvG p l e R s m args below meth c Q D cT ex A mL o) : rvG p l e R s m args below meth c Q D cT ex A mL (pc, al, st, aw, kc, ks) := by
  obtain ⟨hx, hb, hml, hown, hts, hK, hA, hX, hini, hsc⟩ := C
  intro ws H locs ls stk hw hl hs hP hD hS
  dsimp only at hw hl hs ⊢
  simp only [rvStep] at h
  split at h
  · rename_i a0 k0 st
    obtain ⟨y1, stk1, rfl, ⟨n1, rfl, p1, q1⟩, hs1⟩ := rvRs_cons hs
    obtain ⟨x, stk2, rfl, ⟨q, hq, rfl⟩, hs2⟩ := rvRs_cons hs1
    split at h
    · rename_i n d ov hc0
      obtain ⟨⟨a, e0⟩, hq1, hce⟩ := rvWo_get hw hc0
      have hqa := rvAd_ref hq1 hq
      subst hqa
      split at h
      · rename_i j hj
        cases h
        obtain ⟨i1, i2, i3⟩ := rvIdx_ok hj p1 q1
        rcases hce with ⟨h0, -⟩ | ⟨-, f, he⟩ | ⟨h0, -⟩
        · exact absurd h0 (by decide)
        · have he : e0 = .inl (cT 3, n, .inr (.inl f)) := he
          subst he
          exact va_lald (D := D) hx hb hK hP k0 3 hq1 rfl i1 hd (k ws H locs ls _ hw hl ⟨⟨_, rfl⟩, hs2⟩ hP hD hS)
        · exact absurd h0 (by decide)
      · cases h
    · cases h
  · cases h
set_option maxHeartbeats 4000000 in
set_option maxRecDepth 100000 in
theorem rs_aaload (C : rvCx p s m args meth c cc own mL D cT ex A ini sc) {BC BS a1 a2 a3 wi pc kc ks : Nat} {al st : List rvV} {aw : rvH} {o : rvS} (hd : decode cc pc = .ok (.aaload, 1)) (hk : rvAux own ini (.aaload) a1 a2 wi = true) (hBC : BC ≤ R.cells) (hBS : BS ≤ R.slots)
    (h : rvStep rvTy rvNf rvTxt sc BC BS mL (.aaload) a1 a2 a3 pc al st aw kc ks = some o) (k : rvG p l e R s m args below meth c Q D cT ex A mL o) : rvG p l e R s m args below meth c Q D cT ex A mL (pc, al, st, aw, kc, ks) := by
  obtain ⟨hx, hb, hml, hown, hts, hK, hA, hX, hini, hsc⟩ := C
  intro ws H locs ls stk hw hl hs hP hD hS
  dsimp only at hw hl hs ⊢
  simp only [rvStep] at h
  split at h
  · rename_i a0 k0 st
    obtain ⟨y1, stk1, rfl, ⟨n1, rfl, p1, q1⟩, hs1⟩ := rvRs_cons hs
    obtain ⟨x, stk2, rfl, ⟨q, hq, rfl⟩, hs2⟩ := rvRs_cons hs1
    split at h
    · rename_i n d ov hc0
      obtain ⟨⟨a, e0⟩, hq1, hce⟩ := rvWo_get hw hc0
      have hqa := rvAd_ref hq1 hq
      subst hqa
      split at h
      · rename_i j hj
        cases h
        obtain ⟨i1, i2, i3⟩ := rvIdx_ok hj p1 q1
        rcases hce with ⟨h0, -⟩ | ⟨h0, -⟩ | ⟨-, f, he, hf⟩
        · exact absurd h0 (by decide)
        · exact absurd h0 (by decide)
        · have he : e0 = .inl (cT 4, n, .inr (.inr (.inr (.inr f)))) := he
          subst he
          exact va_aldq (D := D) (C := RX2) hx hb hK hP k0 4 hq1 rfl i1 hd (k ws H locs ls _ hw hl ⟨by rw [i2]; exact hf j i3, hs2⟩ hP hD hS)
      · cases h
    · rename_i n d ov hc0
      obtain ⟨⟨a, e0⟩, hq1, hce⟩ := rvWo_get hw hc0
      have hqa := rvAd_ref hq1 hq
      subst hqa
      split at h
      · rename_i j hj
        cases h
        obtain ⟨i1, i2, i3⟩ := rvIdx_ok hj p1 q1
        rcases hce with ⟨h0, -⟩ | ⟨h0, -⟩ | ⟨-, f, he, hf⟩
        · exact absurd h0 (by decide)
        · exact absurd h0 (by decide)
        · have he : e0 = .inl (cT 5, n, .inr (.inr (.inr (.inr f)))) := he
          subst he
          exact va_aldq (D := D) (C := RX6) hx hb hK hP k0 5 hq1 rfl i1 hd (k ws H locs ls _ hw hl ⟨by rw [i2]; exact hf j i3, hs2⟩ hP hD hS)
      · cases h
    · cases h
  · cases h
/-- a row of ints behind a store -/
theorem rvRow_up {ad : List Nat} {d : rvV} {ov : List (Nat × rvV)} {n j : Nat} {v : rvV} {f : Nat → Int32} {y : Int32} (hf : ∀ i, i < n → rvR ad ex (rvLook d ov i) (.int (f i))) (hv : rvR ad ex v (.int y)) : ∀ i, i < n → rvR ad ex (rvLook d (rvUp ov j v) i) (.int (upd f j y i)) := by
  intro i hi
  rw [rvLook_up]
  by_cases h : i = j
  · rw [if_pos h]
    show rvR ad ex v (.int (if i = j then y else f i))
    rw [if_pos h]
    exact hv
  · rw [if_neg h]
    show rvR ad ex (rvLook d ov i) (.int (if i = j then y else f i))
    rw [if_neg h]
    exact hf i hi
theorem rvRow_upq {ad : List Nat} {d : rvV} {ov : List (Nat × rvV)} {n j : Nat} {v : rvV} {f : Nat → Option Nat} {y : Option Nat} (hf : ∀ i, i < n → rvR ad ex (rvLook d ov i) (va_rf (f i))) (hv : rvR ad ex v (va_rf y)) : ∀ i, i < n → rvR ad ex (rvLook d (rvUp ov j v) i) (va_rf (va_up f j y i)) := by
  intro i hi
  rw [rvLook_up]
  by_cases h : i = j
  · rw [if_pos h, h, va_up_self]
    exact hv
  · rw [if_neg h, va_up_ne _ _ h]
    exact hf i hi
set_option maxHeartbeats 4000000 in
set_option maxRecDepth 100000 in
theorem rs_iastore (C : rvCx p s m args meth c cc own mL D cT ex A ini sc) {BC BS a1 a2 a3 wi pc kc ks : Nat} {al st : List rvV} {aw : rvH} {o : rvS} (hd : decode cc pc = .ok (.iastore, 1)) (hk : rvAux own ini (.iastore) a1 a2 wi = true) (hBC : BC ≤ R.cells) (hBS : BS ≤ R.slots)
    (h : rvStep rvTy rvNf rvTxt sc BC BS mL (.iastore) a1 a2 a3 pc al st aw kc ks = some o) (k : rvG p l e R s m args below meth c Q D cT ex A mL o) : rvG p l e R s m args below meth c Q D cT ex A mL (pc, al, st, aw, kc, ks) := by
  obtain ⟨hx, hb, hml, hown, hts, hK, hA, hX, hini, hsc⟩ := C
  intro ws H locs ls stk hw hl hs hP hD hS
  dsimp only at hw hl hs ⊢
  simp only [rvStep] at h
  split at h
  · rename_i v0 a0 k0 st
    obtain ⟨y0, stk0, rfl, ⟨n0, rfl, p0, q0⟩, hs0⟩ := rvRs_cons hs
    obtain ⟨y1, stk1, rfl, ⟨n1, rfl, p1, q1⟩, hs1⟩ := rvRs_cons hs0
    obtain ⟨x, stk2, rfl, ⟨q, hq, rfl⟩, hs2⟩ := rvRs_cons hs1
    split at h
    · rename_i n d ov hc0
      obtain ⟨⟨a, e0⟩, hq1, hce⟩ := rvWo_get hw hc0
      have hqa := rvAd_ref hq1 hq
      subst hqa
      split at h
      · rename_i j hj
        cases h
        obtain ⟨i1, i2, i3⟩ := rvIdx_ok hj p1 q1
        rcases hce with ⟨-, f, he, hf⟩ | ⟨h0, -⟩ | ⟨h0, -⟩
        · have he : e0 = .inl (cT 0, n, .inl f) := he
          subst he
          refine va_iast (D := D) hx hb hK hP hD hS k0 0 hq1 rfl i1 hd (fun H1 locs1 hP1 hD1 hS1 => ?_)
          have ea := rvAd_set (e := .inl (cT 0, n, .inl (upd f n1.toNatClampNeg n0))) hq1
          refine k _ H1 locs1 ls stk2 ?_ ?_ ?_ hP1 hD1 hS1
          · rw [ea]
            refine rvWo_set hw (Or.inl ⟨by decide, _, rfl, ?_⟩)
            rw [i2]
            exact rvRow_up hf ⟨n0, rfl, p0, q0⟩
          · rw [ea]; exact hl
          · rw [ea]; exact hs2
        · exact absurd h0 (by decide)
        · exact absurd h0 (by decide)
      · cases h
    · cases h
  · cases h
set_option maxHeartbeats 4000000 in
set_option maxRecDepth 100000 in
theorem rs_bastore (C : rvCx p s m args meth c cc own mL D cT ex A ini sc) {BC BS a1 a2 a3 wi pc kc ks : Nat} {al st : List rvV} {aw : rvH} {o : rvS} (hd : decode cc pc = .ok (.bastore, 1)) (hk : rvAux own ini (.bastore) a1 a2 wi = true) (hBC : BC ≤ R.cells) (hBS : BS ≤ R.slots)
    (h : rvStep rvTy rvNf rvTxt sc BC BS mL (.bastore) a1 a2 a3 pc al st aw kc ks = some o) (k : rvG p l e R s m args below meth c Q D cT ex A mL o) : rvG p l e R s m args below meth c Q D cT ex A mL (pc, al, st, aw, kc, ks) := by
  obtain ⟨hx, hb, hml, hown, hts, hK, hA, hX, hini, hsc⟩ := C
  intro ws H locs ls stk hw hl hs hP hD hS
  dsimp only at hw hl hs ⊢
  simp only [rvStep] at h
  split at h
  · rename_i v0 a0 k0 st
    obtain ⟨y0, stk0, rfl, ⟨n0, rfl, p0, q0⟩, hs0⟩ := rvRs_cons hs
    obtain ⟨y1, stk1, rfl, ⟨n1, rfl, p1, q1⟩, hs1⟩ := rvRs_cons hs0
    obtain ⟨x, stk2, rfl, ⟨q, hq, rfl⟩, hs2⟩ := rvRs_cons hs1
    split at h
    · rename_i n d ov hc0
      obtain ⟨⟨a, e0⟩, hq1, hce⟩ := rvWo_get hw hc0
      have hqa := rvAd_ref hq1 hq
      subst hqa
      split at h
      · rename_i j hj
        obtain ⟨hc, rfl⟩ := rv_bif h
        have hna : vp_nar .byte n0 = n0 := by
          obtain ⟨g1, -⟩ := rvFit_ok (ad := rvAd ws) (ex := ex) (ty := .byte) (v := .inl v0) (x := .int n0) hc ⟨n0, rfl, p0, q0⟩
          exact Value.int.inj g1
        obtain ⟨i1, i2, i3⟩ := rvIdx_ok hj p1 q1
        rcases hce with ⟨-, f, he, hf⟩ | ⟨h0, -⟩ | ⟨h0, -⟩
        · have he : e0 = .inl (cT 1, n, .inl f) := he
          subst he
          refine va_bast (D := D) hx hb hK hP hD hS k0 1 hq1 rfl i1 hd (fun H1 locs1 hP1 hD1 hS1 => ?_)
          have ea := rvAd_set (e := .inl (cT 1, n, .inl (upd f n1.toNatClampNeg (vp_nar .byte n0)))) hq1
          refine k _ H1 locs1 ls stk2 ?_ ?_ ?_ hP1 hD1 hS1
          · rw [ea]
            refine rvWo_set hw (Or.inl ⟨by decide, _, rfl, ?_⟩)
            rw [i2]
            exact rvRow_up hf ⟨n0, by rw [hna], p0, q0⟩
          · rw [ea]; exact hl
          · rw [ea]; exact hs2
        · exact absurd h0 (by decide)
        · exact absurd h0 (by decide)
      · cases h
    · rename_i n d ov hc0
      obtain ⟨⟨a, e0⟩, hq1, hce⟩ := rvWo_get hw hc0
      have hqa := rvAd_ref hq1 hq
      subst hqa
      split at h
      · rename_i j hj
        obtain ⟨hc, rfl⟩ := rv_bif h
        have hna : vp_nar .boolean n0 = n0 := by
          obtain ⟨g1, -⟩ := rvFit_ok (ad := rvAd ws) (ex := ex) (ty := .boolean) (v := .inl v0) (x := .int n0) hc ⟨n0, rfl, p0, q0⟩
          exact Value.int.inj g1
        obtain ⟨i1, i2, i3⟩ := rvIdx_ok hj p1 q1
        rcases hce with ⟨-, f, he, hf⟩ | ⟨h0, -⟩ | ⟨h0, -⟩
        · have he : e0 = .inl (cT 2, n, .inl f) := he
          subst he
          refine va_zast (D := D) hx hb hK hP hD hS k0 2 hq1 rfl i1 hd (fun H1 locs1 hP1 hD1 hS1 => ?_)
          have ea := rvAd_set (e := .inl (cT 2, n, .inl (upd f n1.toNatClampNeg (vp_nar .boolean n0)))) hq1
          refine k _ H1 locs1 ls stk2 ?_ ?_ ?_ hP1 hD1 hS1
          · rw [ea]
            refine rvWo_set hw (Or.inl ⟨by decide, _, rfl, ?_⟩)
            rw [i2]
            exact rvRow_up hf ⟨n0, by rw [hna], p0, q0⟩
          · rw [ea]; exact hl
          · rw [ea]; exact hs2
        · exact absurd h0 (by decide)
        · exact absurd h0 (by decide)
      · cases h
    · cases h
  · cases h
set_option maxHeartbeats 4000000 in
set_option maxRecDepth 100000 in
theorem rs_lastore (C : rvCx p s m args meth c cc own mL D cT ex A ini sc) {BC BS a1 a2 a3 wi pc kc ks : Nat} {al st : List rvV} {aw : rvH} {o : rvS} (hd : decode cc pc = .ok (.lastore, 1)) (hk : rvAux own ini (.lastore) a1 a2 wi = true) (hBC : BC ≤ R.cells) (hBS : BS ≤ R.slots)
    (h : rvStep rvTy rvNf rvTxt sc BC BS mL (.lastore) a1 a2 a3 pc al st aw kc ks = some o) (k : rvG p l e R s m args below meth c Q D cT ex A mL o) : rvG p l e R s m args below meth c Q D cT ex A mL (pc, al, st, aw, kc, ks) := by
  obtain ⟨hx, hb, hml, hown, hts, hK, hA, hX, hini, hsc⟩ := C
  intro ws H locs ls stk hw hl hs hP hD hS
  dsimp only at hw hl hs ⊢
  simp only [rvStep] at h
  split at h
  · rename_i z0 a0 k0 st
    obtain ⟨y0, stk0, rfl, ⟨n0, rfl⟩, hs0⟩ := rvRs_cons hs
    obtain ⟨y1, stk1, rfl, ⟨n1, rfl, p1, q1⟩, hs1⟩ := rvRs_cons hs0
    obtain ⟨x, stk2, rfl, ⟨q, hq, rfl⟩, hs2⟩ := rvRs_cons hs1
    split at h
    · rename_i n d ov hc0
      obtain ⟨⟨a, e0⟩, hq1, hce⟩ := rvWo_get hw hc0
      have hqa := rvAd_ref hq1 hq
      subst hqa
      split at h
      · rename_i j hj
        cases h
        obtain ⟨i1, i2, i3⟩ := rvIdx_ok hj p1 q1
        rcases hce with ⟨h0, -⟩ | ⟨-, f, he⟩ | ⟨h0, -⟩
        · exact absurd h0 (by decide)
        · have he : e0 = .inl (cT 3, n, .inr (.inl f)) := he
          subst he
          refine va_last (D := D) hx hb hK hP hD hS k0 3 hq1 rfl i1 hd (fun H1 locs1 hP1 hD1 hS1 => ?_)
          have ea := rvAd_set (e := .inl (cT 3, n, .inr (.inl (vp_updL f n1.toNatClampNeg n0)))) hq1
          have eb : aw.set k0 (.inr (3, n, d, ov)) = aw := by
            apply List.ext_getElem?
            intro i
            rw [List.getElem?_set]
            by_cases hki : k0 = i
            · subst hki
              have hl9 := (List.getElem?_eq_some_iff.mp hc0).1
              simp [hl9]
              exact (List.getElem?_eq_some_iff.mp hc0).2.symm
            · simp [hki]
          refine k _ H1 locs1 ls stk2 ?_ ?_ ?_ hP1 hD1 hS1
          · rw [ea]
            have := rvWo_set (k := k0) (c := .inr (3, n, d, ov)) (q := (q, .inl (cT 3, n, .inr (.inl (vp_updL f n1.toNatClampNeg n0))))) hw (Or.inr (Or.inl ⟨rfl, _, rfl⟩))
            rw [eb] at this
            exact this
          · rw [ea]; exact hl
          · rw [ea]; exact hs2
        · exact absurd h0 (by decide)
      · cases h
    · cases h
  · cases h
end RVH
end
section
section RVN
variable {p : Program} {l : Launch} {e : Env} {R : Room} {s : State} {m : MethodId} {args : Array Value} {below : List Frame} {meth : Method} {c : Code} {Q : State → Prop} {cc : ByteArray} {own : String} {mL : Nat} {D : va_G} {cT : Nat → ClassId} {ex : Nat → Nat → Nat} {A : Nat → Prop} {sc : List (Int × Int)} {ini : Bool}
theorem rvRs_map {ad : List Nat} {f : Nat → rvV} {g : Nat → Value} : ∀ (l : List Nat), (∀ k ∈ l, rvR ad ex (f k) (g k)) → rvRs ad ex (l.map f) (l.map g)
  | [], _ => trivial
  | a :: t, h => ⟨h a List.mem_cons_self, rvRs_map t (fun k hk => h k (List.mem_cons_of_mem _ hk))⟩
theorem rvDef_ok {ad : List Nat} {ty : FieldType} (h : rvTyOk ty = true) : rvR ad ex (rvDef ty) (defaultValue ty) := by
  cases ty with
  | int => exact rvR_K rfl
  | boolean => exact rvR_K rfl
  | long => exact ⟨_, rfl⟩
  | object _ => rfl
  | array _ => rfl
  | byte => cases h
  | char => cases h
  | short => cases h
  | float => cases h
  | double => cases h
theorem rv_bytes {a b : Nat} (h1 : a ≤ 100000) (h2 : b ≤ 8) : a * b ≤ 536870912 := Nat.le_trans (Nat.mul_le_mul h1 h2) (by decide)
/-- behind the making of a cell -/
theorem rvPush {ws : va_W} {q kc ks pc : Nat} {e0 : va_E} {cn : rvC} {al st : List rvV} {aw : rvH} {ls : Array Slot} {stk : List Value} {H1 : Heap} {locs : List Loc} (k : rvG p l e R s m args below meth c Q D cT ex A mL (pc, al, .inr (2, aw.length) :: st, aw ++ [cn], kc, ks))
    (hw : rvWo cT (rvAd ws) ex aw ws) (hl : rvLo (rvAd ws) ex mL al ls) (hs : rvRs (rvAd ws) ex st stk) (hc : rvCe cT (rvAd ws) ex cn e0) (hP : va_P D vwCl (ws ++ [(q, e0)]) H1) (hD : va_D A (ws ++ [(q, e0)])) (hS : va_S A s.heap H1 locs) :
    W p l e R s m args below meth c H1 locs kc ks Q (F0 m pc ls (.ref q :: stk)) := by
  have ea : rvAd (ws ++ [(q, e0)]) = rvAd ws ++ [q] := rvAd_push
  have en : aw.length = (rvAd ws).length := by rw [rvWo_len hw]; simp
  refine k _ H1 locs ls _ ?_ ?_ ⟨⟨q, ?_, rfl⟩, ?_⟩ hP hD hS
  · rw [ea]
    exact rvWo_push (rvWo_mono _ hw) (rvCe_mono _ hc)
  · rw [ea]; exact rvLo_mono _ hl
  · rw [ea, en, List.getElem?_append_right (Nat.le_refl _)]
    simp
  · rw [ea]; exact rvRs_mono _ hs
set_option maxHeartbeats 4000000 in
set_option maxRecDepth 100000 in
theorem rs_aastore (C : rvCx p s m args meth c cc own mL D cT ex A ini sc) {BC BS a1 a2 a3 wi pc kc ks : Nat} {al st : List rvV} {aw : rvH} {o : rvS} (hd : decode cc pc = .ok (.aastore, 1)) (hk : rvAux own ini (.aastore) a1 a2 wi = true) (hBC : BC ≤ R.cells) (hBS : BS ≤ R.slots)
    (h : rvStep rvTy rvNf rvTxt sc BC BS mL (.aastore) a1 a2 a3 pc al st aw kc ks = some o) (k : rvG p l e R s m args below meth c Q D cT ex A mL o) : rvG p l e R s m args below meth c Q D cT ex A mL (pc, al, st, aw, kc, ks) := by
  obtain ⟨hx, hb, hml, hown, hts, hK, hA, hX, hini, hsc⟩ := C
  intro ws H locs ls stk hw hl hs hP hD hS
  dsimp only at hw hl hs ⊢
  simp only [rvStep] at h
  split at h
  · rename_i v0 a0 k0 st
    obtain ⟨y0, stk0, rfl, hy0, hs0⟩ := rvRs_cons hs
    obtain ⟨y1, stk1, rfl, ⟨n1, rfl, p1, q1⟩, hs1⟩ := rvRs_cons hs0
    obtain ⟨x, stk2, rfl, ⟨q, hq, rfl⟩, hs2⟩ := rvRs_cons hs1
    split at h
    · rename_i kd n d ov hc0
      obtain ⟨⟨a, e0⟩, hq1, hce⟩ := rvWo_get hw hc0
      have hqa := rvAd_ref hq1 hq
      subst hqa
      split at h
      · rename_i j hj
        obtain ⟨i1, i2, i3⟩ := rvIdx_ok hj p1 q1
        have fin : ∀ (f : Nat → Option Nat) (y : Option Nat) (v : rvV) (H1 : Heap) (locs1 : List Loc), (kd = 4 ∨ kd = 5) → ws[k0]? = some (q, .inl (cT kd, n, .inr (.inr (.inr (.inr f))))) → (∀ i, i < n → rvR (rvAd ws) ex (rvLook d ov i) (va_rf (f i))) → rvR (rvAd ws) ex v (va_rf y) → rvG p l e R s m args below meth c Q D cT ex A mL (pc + 1, al, st, aw.set k0 (.inr (kd, n, d, rvUp ov j v)), kc, ks) →
            va_P D vwCl (ws.set k0 (q, .inl (cT kd, n, .inr (.inr (.inr (.inr (va_up f n1.toNatClampNeg y))))))) H1 → va_D A (ws.set k0 (q, .inl (cT kd, n, .inr (.inr (.inr (.inr (va_up f n1.toNatClampNeg y))))))) → va_S A s.heap H1 locs1 → W p l e R s m args below meth c H1 locs1 kc ks Q (F0 m (pc + 1) ls stk2) := by
          intro f y v H1 locs1 hkd hq9 hf hv k9 hP1 hD1 hS1
          have ea := rvAd_set (e := .inl (cT kd, n, .inr (.inr (.inr (.inr (va_up f n1.toNatClampNeg y)))))) hq9
          refine k9 _ H1 locs1 ls stk2 ?_ ?_ ?_ hP1 hD1 hS1
          · rw [ea]
            refine rvWo_set hw (Or.inr (Or.inr ⟨hkd, _, rfl, ?_⟩))
            rw [i2]
            exact rvRow_upq hf hv
          · rw [ea]; exact hl
          · rw [ea]; exact hs2
        split at h
        · rename_i z
          obtain ⟨hc, rfl⟩ := rv_bif h
          have hkd : kd = 4 ∨ kd = 5 := (rv_or' hc).elim (fun q9 => Or.inl (rv_beq q9)) (fun q9 => Or.inr (rv_beq q9))
          have hy0 : y0 = .null := hy0
          subst hy0
          rcases hce with ⟨h0, -⟩ | ⟨h0, -⟩ | ⟨-, f, he, hf⟩
          · rcases hkd with q9 | q9
            · rw [q9] at h0; exact absurd h0 (by decide)
            · rw [q9] at h0; exact absurd h0 (by decide)
          · rcases hkd with q9 | q9
            · rw [q9] at h0; exact absurd h0 (by decide)
            · rw [q9] at h0; exact absurd h0 (by decide)
          · have he : e0 = .inl (cT kd, n, .inr (.inr (.inr (.inr f)))) := he
            subst he
            rcases hkd with q9 | q9
            · subst q9
              exact va_astqN (D := D) (C := RX2) hx hb hK hP hD hS k0 4 hq1 rfl i1 hd (fun H1 locs1 hP1 hD1 hS1 => fin f none (.inr (0, z)) H1 locs1 (Or.inl rfl) hq1 hf rfl k hP1 hD1 hS1)
            · subst q9
              exact va_astqN (D := D) (C := RX6) hx hb hK hP hD hS k0 5 hq1 rfl i1 hd (fun H1 locs1 hP1 hD1 hS1 => fin f none (.inr (0, z)) H1 locs1 (Or.inr rfl) hq1 hf rfl k hP1 hD1 hS1)
        · rename_i z
          obtain ⟨qv, hqv, rfl⟩ := hy0
          split at h
          · rename_i ci fs hcz
            obtain ⟨hc, rfl⟩ := rv_bif h
            obtain ⟨⟨az, ez⟩, hz1, vs, hez, hvs⟩ := rvWo_get hw hcz
            have hez : ez = .inr (ci, vs) := hez
            subst hez
            have hqz := rvAd_ref hz1 hqv
            subst hqz
            have hkd : (kd = 4 ∧ ci = 2) ∨ (kd = 5 ∧ ci = 6) := (rv_or' hc).elim (fun q9 => Or.inl ⟨rv_beq (rv_and q9).1, rv_beq (rv_and q9).2⟩) (fun q9 => Or.inr ⟨rv_beq (rv_and q9).1, rv_beq (rv_and q9).2⟩)
            rcases hce with ⟨h0, -⟩ | ⟨h0, -⟩ | ⟨-, f, he, hf⟩
            · rcases hkd with q9 | q9
              · rw [q9.1] at h0; exact absurd h0 (by decide)
              · rw [q9.1] at h0; exact absurd h0 (by decide)
            · rcases hkd with q9 | q9
              · rw [q9.1] at h0; exact absurd h0 (by decide)
              · rw [q9.1] at h0; exact absurd h0 (by decide)
            · have he : e0 = .inl (cT kd, n, .inr (.inr (.inr (.inr f)))) := he
              subst he
              rcases hkd with ⟨q9, q8⟩ | ⟨q9, q8⟩
              · subst q9; subst q8
                exact va_astq (D := D) (r := (RX2, TX2, 11)) hx hb hK hP hD hS k0 4 z 2 hq1 rfl hz1 rfl i1 hd (fun H1 locs1 hP1 hD1 hS1 => fin f (some qv) (.inr (2, z)) H1 locs1 (Or.inl rfl) hq1 hf ⟨qv, hqv, rfl⟩ k hP1 hD1 hS1)
              · subst q9; subst q8
                exact va_astq (D := D) (r := (RX6, TX6, 5)) hx hb hK hP hD hS k0 5 z 6 hq1 rfl hz1 rfl i1 hd (fun H1 locs1 hP1 hD1 hS1 => fin f (some qv) (.inr (2, z)) H1 locs1 (Or.inr rfl) hq1 hf ⟨qv, hqv, rfl⟩ k hP1 hD1 hS1)
          · cases h
        · cases h
      · cases h
    · cases h
  · cases h
set_option maxHeartbeats 4000000 in
set_option maxRecDepth 100000 in
theorem rs_new (C : rvCx p s m args meth c cc own mL D cT ex A ini sc) {BC BS a1 a2 a3 wi pc kc ks idx : Nat} {al st : List rvV} {aw : rvH} {o : rvS} (hd : decode cc pc = .ok (.new idx, 3)) (hk : rvAux own ini (.new idx) a1 a2 wi = true) (hBC : BC ≤ R.cells) (hBS : BS ≤ R.slots)
    (h : rvStep rvTy rvNf rvTxt sc BC BS mL (.new idx) a1 a2 a3 pc al st aw kc ks = some o) (k : rvG p l e R s m args below meth c Q D cT ex A mL o) : rvG p l e R s m args below meth c Q D cT ex A mL (pc, al, st, aw, kc, ks) := by
  obtain ⟨hx, hb, hml, hown, hts, hK, hA, hX, hini, hsc⟩ := C
  intro ws H locs ls stk hw hl hs hP hD hS
  dsimp only at hw hl hs ⊢
  obtain ⟨hc, rfl⟩ := rv_bif h
  obtain ⟨c1, c2⟩ := rv_and hc
  obtain ⟨g1, g2⟩ := rv_and (show (Nat.blt a1 13 && rvW wi (.classLink own idx (rvCn a1))) = true from hk)
  obtain ⟨⟨hi1, hi2, hin, hty⟩, hcl, hnm⟩ := rvCl a1 (rv_blt g1)
  have c1 := rv_ble c1
  have c2 := rv_ble c2
  refine va_new (D := D) (fs := (List.range (rvNf a1)).map (fun k => defaultValue (rvTy a1 k))) hx hb hts hin (rvTy a1) (fun j hj => (hty j hj).2) hown (hts _ (rvW_ok g2)) (hts _ hi1) (hts _ hi2) hK hP hD hS hA hcl (fun j hj => ?_) (by omega) (by omega) hd (fun q H1 hP1 hD1 hS1 => ?_)
  · show _ = List.getD _ j Value.null
    rw [List.getD_eq_getElem?_getD, List.getElem?_map, List.getElem?_range hj]
    rfl
  · exact rvPush k hw hl hs ⟨_, rfl, rvRs_map _ (fun k9 hk9 => rvDef_ok (hty k9 (List.mem_range.mp hk9)).1)⟩ hP1 hD1 hS1
set_option maxHeartbeats 4000000 in
set_option maxRecDepth 100000 in
theorem rs_newarray (C : rvCx p s m args meth c cc own mL D cT ex A ini sc) {BC BS a1 a2 a3 wi pc kc ks : Nat} {t : ArrayType} {al st : List rvV} {aw : rvH} {o : rvS} (hd : decode cc pc = .ok (.newarray t, 2)) (hk : rvAux own ini (.newarray t) a1 a2 wi = true) (hBC : BC ≤ R.cells) (hBS : BS ≤ R.slots)
    (h : rvStep rvTy rvNf rvTxt sc BC BS mL (.newarray t) a1 a2 a3 pc al st aw kc ks = some o) (k : rvG p l e R s m args below meth c Q D cT ex A mL o) : rvG p l e R s m args below meth c Q D cT ex A mL (pc, al, st, aw, kc, ks) := by
  obtain ⟨hx, hb, hml, hown, hts, hK, hA, hX, hini, hsc⟩ := C
  intro ws H locs ls stk hw hl hs hP hD hS
  dsimp only at hw hl hs ⊢
  simp only [rvStep] at h
  split at h
  · rename_i x st
    obtain ⟨hc, rfl⟩ := rv_bif h
    obtain ⟨c1, c2⟩ := rv_and hc
    obtain ⟨c2, c3⟩ := rv_and c2
    obtain ⟨c3, c4⟩ := rv_and c3
    obtain ⟨c4, c5⟩ := rv_and c4
    have c2 := of_decide_eq_true c2
    have c3 := of_decide_eq_true c3
    have c4 := rv_ble c4
    have c5 := rv_ble c5
    obtain ⟨y1, stk1, rfl, ⟨n1, rfl, p1, q1⟩, hs1⟩ := rvRs_cons hs
    obtain ⟨e1, -⟩ := rv_one c1 p1 q1
    have hn0 : ¬ n1 < 0 := by
      rw [Int32.lt_iff_toInt_lt]
      show ¬ n1.toInt < 0
      omega
    have hN : n1.toNatClampNeg = x.1.toNat := by
      show n1.toInt.toNat = _
      rw [e1]
    have hle : x.1.toNat ≤ 100000 := by omega
    cases t
    case int =>
      obtain ⟨g1, g2⟩ := rv_and (show (rvW wi (.arrayClass (newarray.typeOf .int)) && Nat.beq a1 0) = true from hk)
      have ea1 := rv_beq g2
      subst ea1
      refine va_newa (D := D) (atype := .int) (ty := .int) (N' := x.1.toNat) (a0 := (x.1.toNat, .inl (fun _ => 0))) hx hb (hts _ (rvW_ok g1)) rfl hK hP hD hS hA (fun cA => rfl) hn0 hN (rv_bytes hle (by decide)) (by omega) (by omega) hd (fun q cA H1 hK1 hP1 hD1 hS1 => ?_)
      have hca : cA = cT 0 := by
        have r1 := (hK1.2 6 (cA, .int) rfl).2
        have r2 := (hK.2 0 (cT 0, .int) rfl).2
        exact Option.some.inj ((show s.vm.findClass _ = some cA from r1).symm.trans (show s.vm.findClass _ = some (cT 0) from r2))
      subst hca
      exact rvPush k hw hl hs1 (Or.inl ⟨by decide, _, rfl, fun j _ => rvR_K rfl⟩) hP1 hD1 hS1
    case byte =>
      obtain ⟨g1, g2⟩ := rv_and (show (rvW wi (.arrayClass (newarray.typeOf .byte)) && Nat.beq a1 1) = true from hk)
      have ea1 := rv_beq g2
      subst ea1
      refine va_newa (D := D) (atype := .byte) (ty := .byte) (N' := x.1.toNat) (a0 := (x.1.toNat, .inl (fun _ => 0))) hx hb (hts _ (rvW_ok g1)) rfl hK hP hD hS hA (fun cA => rfl) hn0 hN (rv_bytes hle (by decide)) (by omega) (by omega) hd (fun q cA H1 hK1 hP1 hD1 hS1 => ?_)
      have hca : cA = cT 1 := by
        have r1 := (hK1.2 6 (cA, .byte) rfl).2
        have r2 := (hK.2 1 (cT 1, .byte) rfl).2
        exact Option.some.inj ((show s.vm.findClass _ = some cA from r1).symm.trans (show s.vm.findClass _ = some (cT 1) from r2))
      subst hca
      exact rvPush k hw hl hs1 (Or.inl ⟨by decide, _, rfl, fun j _ => rvR_K rfl⟩) hP1 hD1 hS1
    case boolean =>
      obtain ⟨g1, g2⟩ := rv_and (show (rvW wi (.arrayClass (newarray.typeOf .boolean)) && Nat.beq a1 2) = true from hk)
      have ea1 := rv_beq g2
      subst ea1
      refine va_newa (D := D) (atype := .boolean) (ty := .boolean) (N' := x.1.toNat) (a0 := (x.1.toNat, .inl (fun _ => 0))) hx hb (hts _ (rvW_ok g1)) rfl hK hP hD hS hA (fun cA => rfl) hn0 hN (rv_bytes hle (by decide)) (by omega) (by omega) hd (fun q cA H1 hK1 hP1 hD1 hS1 => ?_)
      have hca : cA = cT 2 := by
        have r1 := (hK1.2 6 (cA, .boolean) rfl).2
        have r2 := (hK.2 2 (cT 2, .boolean) rfl).2
        exact Option.some.inj ((show s.vm.findClass _ = some cA from r1).symm.trans (show s.vm.findClass _ = some (cT 2) from r2))
      subst hca
      exact rvPush k hw hl hs1 (Or.inl ⟨by decide, _, rfl, fun j _ => rvR_K rfl⟩) hP1 hD1 hS1
    case long =>
      obtain ⟨g1, g2⟩ := rv_and (show (rvW wi (.arrayClass (newarray.typeOf .long)) && Nat.beq a1 3) = true from hk)
      have ea1 := rv_beq g2
      subst ea1
      refine va_newa (D := D) (atype := .long) (ty := .long) (N' := x.1.toNat) (a0 := (x.1.toNat, .inr (.inl (fun _ => 0)))) hx hb (hts _ (rvW_ok g1)) rfl hK hP hD hS hA (fun cA => rfl) hn0 hN (rv_bytes hle (by decide)) (by omega) (by omega) hd (fun q cA H1 hK1 hP1 hD1 hS1 => ?_)
      have hca : cA = cT 3 := by
        have r1 := (hK1.2 6 (cA, .long) rfl).2
        have r2 := (hK.2 3 (cT 3, .long) rfl).2
        exact Option.some.inj ((show s.vm.findClass _ = some cA from r1).symm.trans (show s.vm.findClass _ = some (cT 3) from r2))
      subst hca
      exact rvPush k hw hl hs1 (Or.inr (Or.inl ⟨rfl, _, rfl⟩)) hP1 hD1 hS1
    all_goals exact absurd (rv_and (show (_ && false) = true from hk)).2 (by decide)
  · cases h
set_option maxHeartbeats 4000000 in
set_option maxRecDepth 100000 in
theorem rs_anewarray (C : rvCx p s m args meth c cc own mL D cT ex A ini sc) {BC BS a1 a2 a3 wi pc kc ks idx : Nat} {al st : List rvV} {aw : rvH} {o : rvS} (hd : decode cc pc = .ok (.anewarray idx, 3)) (hk : rvAux own ini (.anewarray idx) a1 a2 wi = true) (hBC : BC ≤ R.cells) (hBS : BS ≤ R.slots)
    (h : rvStep rvTy rvNf rvTxt sc BC BS mL (.anewarray idx) a1 a2 a3 pc al st aw kc ks = some o) (k : rvG p l e R s m args below meth c Q D cT ex A mL o) : rvG p l e R s m args below meth c Q D cT ex A mL (pc, al, st, aw, kc, ks) := by
  obtain ⟨hx, hb, hml, hown, hts, hK, hA, hX, hini, hsc⟩ := C
  intro ws H locs ls stk hw hl hs hP hD hS
  dsimp only at hw hl hs ⊢
  simp only [rvStep] at h
  split at h
  · rename_i x st
    obtain ⟨hc, rfl⟩ := rv_bif h
    obtain ⟨c1, c2⟩ := rv_and hc
    obtain ⟨c2, c3⟩ := rv_and c2
    obtain ⟨c3, c4⟩ := rv_and c3
    obtain ⟨c4, c5⟩ := rv_and c4
    have c2 := of_decide_eq_true c2
    have c3 := of_decide_eq_true c3
    have c4 := rv_ble c4
    have c5 := rv_ble c5
    obtain ⟨y1, stk1, rfl, ⟨n1, rfl, p1, q1⟩, hs1⟩ := rvRs_cons hs
    obtain ⟨e1, -⟩ := rv_one c1 p1 q1
    have hn0 : ¬ n1 < 0 := by
      rw [Int32.lt_iff_toInt_lt]
      show ¬ n1.toInt < 0
      omega
    have hN : n1.toNatClampNeg = x.1.toNat := by
      show n1.toInt.toNat = _
      rw [e1]
    have hk : (bif Nat.beq a1 4 then rvW wi (.classLink own idx RX2) else Nat.beq a1 5 && rvW wi (.classLink own idx RX6)) = true := hk
    cases h4 : Nat.beq a1 4 with
    | true =>
      have ea1 := rv_beq h4
      subst ea1
      have hk : rvW wi (.classLink own idx RX2) = true := hk
      refine va_newq (D := D) (C := RX2) (N' := x.1.toNat) hx hb hown (hts _ (rvW_ok hk)) hX.2.1 hK hP hD hS hA hn0 hN (by omega) (by omega) (by omega) hd (fun q cA H1 hK1 hP1 hD1 hS1 => ?_)
      have hca : cA = cT 4 := by
        obtain ⟨-, -, -, -, -, r1⟩ := (hK1.2 6 (cA, .object RX2) rfl).2
        obtain ⟨-, -, -, -, -, r2⟩ := (hK.2 4 (cT 4, .object RX2) rfl).2
        exact Option.some.inj (r1.symm.trans r2)
      subst hca
      exact rvPush k hw hl hs1 (Or.inr (Or.inr ⟨Or.inl rfl, fun _ => none, rfl, fun j _ => rfl⟩)) hP1 hD1 hS1
    | false =>
      rw [h4] at hk
      obtain ⟨g1, hk⟩ := rv_and (show (Nat.beq a1 5 && rvW wi (.classLink own idx RX6)) = true from hk)
      have ea1 := rv_beq g1
      subst ea1
      refine va_newq (D := D) (C := RX6) (N' := x.1.toNat) hx hb hown (hts _ (rvW_ok hk)) hX.2.2.1 hK hP hD hS hA hn0 hN (by omega) (by omega) (by omega) hd (fun q cA H1 hK1 hP1 hD1 hS1 => ?_)
      have hca : cA = cT 5 := by
        obtain ⟨-, -, -, -, -, r1⟩ := (hK1.2 6 (cA, .object RX6) rfl).2
        obtain ⟨-, -, -, -, -, r2⟩ := (hK.2 5 (cT 5, .object RX6) rfl).2
        exact Option.some.inj (r1.symm.trans r2)
      subst hca
      exact rvPush k hw hl hs1 (Or.inr (Or.inr ⟨Or.inr rfl, fun _ => none, rfl, fun j _ => rfl⟩)) hP1 hD1 hS1
  · cases h
set_option maxHeartbeats 4000000 in
set_option maxRecDepth 100000 in
theorem rvStep_ok (C : rvCx p s m args meth c cc own mL D cT ex A ini sc) {BC BS a1 a2 a3 wi pc kc ks len : Nat} {i : Instr} {al st : List rvV} {aw : rvH} {o : rvS} (hd : decode cc pc = .ok (i, rvSz i len)) (hk : rvAux own ini i a1 a2 wi = true) (hBC : BC ≤ R.cells) (hBS : BS ≤ R.slots)
    (h : rvStep rvTy rvNf rvTxt sc BC BS mL i a1 a2 a3 pc al st aw kc ks = some o) (k : rvG p l e R s m args below meth c Q D cT ex A mL o) : rvG p l e R s m args below meth c Q D cT ex A mL (pc, al, st, aw, kc, ks) := by
  cases i
  case iconst => exact rs_iconst C hd hk hBC hBS h k
  case bipush => exact rs_bipush C hd hk hBC hBS h k
  case sipush => exact rs_sipush C hd hk hBC hBS h k
  case lconst => exact rs_lconst C hd hk hBC hBS h k
  case ldc2_w => exact rs_ldc2_w C hd hk hBC hBS h k
  case ldc => exact rs_ldc C hd hk hBC hBS h k
  case aconst_null => exact rs_aconst_null C hd hk hBC hBS h k
  case iload => exact rs_iload C hd hk hBC hBS h k
  case iload_n => exact rs_iload_n C hd hk hBC hBS h k
  case lload => exact rs_lload C hd hk hBC hBS h k
  case lload_n => exact rs_lload_n C hd hk hBC hBS h k
  case aload => exact rs_aload C hd hk hBC hBS h k
  case aload_n => exact rs_aload_n C hd hk hBC hBS h k
  case istore => exact rs_istore C hd hk hBC hBS h k
  case istore_n => exact rs_istore_n C hd hk hBC hBS h k
  case lstore => exact rs_lstore C hd hk hBC hBS h k
  case lstore_n => exact rs_lstore_n C hd hk hBC hBS h k
  case astore => exact rs_astore C hd hk hBC hBS h k
  case astore_n => exact rs_astore_n C hd hk hBC hBS h k
  case iinc => exact rs_iinc C hd hk hBC hBS h k
  case iadd => exact rs_iadd C hd hk hBC hBS h k
  case isub => exact rs_isub C hd hk hBC hBS h k
  case imul => exact rs_imul C hd hk hBC hBS h k
  case iand => exact rs_iand C hd hk hBC hBS h k
  case ior => exact rs_ior C hd hk hBC hBS h k
  case ixor => exact rs_ixor C hd hk hBC hBS h k
  case ishl => exact rs_ishl C hd hk hBC hBS h k
  case ishr => exact rs_ishr C hd hk hBC hBS h k
  case iushr => exact rs_iushr C hd hk hBC hBS h k
  case irem => exact rs_irem C hd hk hBC hBS h k
  case i2b => exact rs_i2b C hd hk hBC hBS h k
  case i2c => exact rs_i2c C hd hk hBC hBS h k
  case i2l => exact rs_i2l C hd hk hBC hBS h k
  case lor => exact rs_lor C hd hk hBC hBS h k
  case lshl => exact rs_lshl C hd hk hBC hBS h k
  case dup => exact rs_dup C hd hk hBC hBS h k
  case dup_x1 => exact rs_dup_x1 C hd hk hBC hBS h k
  case dup2 => exact rs_dup2 C hd hk hBC hBS h k
  case pop => exact rs_pop C hd hk hBC hBS h k
  case if_icmp => exact rs_if_icmp C hd hk hBC hBS h k
  case ifCond => exact rs_ifCond C hd hk hBC hBS h k
  case ifnonnull => exact rs_ifnonnull C hd hk hBC hBS h k
  case ifnull => exact rs_ifnull C hd hk hBC hBS h k
  case goto => exact rs_goto C hd hk hBC hBS h k
  case tableswitch => exact rs_tableswitch C hd hk hBC hBS h k
  case getfield => exact rs_getfield C hd hk hBC hBS h k
  case putfield => exact rs_putfield C hd hk hBC hBS h k
  case getstatic => exact rs_getstatic C hd hk hBC hBS h k
  case arraylength => exact rs_arraylength C hd hk hBC hBS h k
  case iaload => exact rs_iaload C hd hk hBC hBS h k
  case baload => exact rs_baload C hd hk hBC hBS h k
  case laload => exact rs_laload C hd hk hBC hBS h k
  case aaload => exact rs_aaload C hd hk hBC hBS h k
  case iastore => exact rs_iastore C hd hk hBC hBS h k
  case bastore => exact rs_bastore C hd hk hBC hBS h k
  case lastore => exact rs_lastore C hd hk hBC hBS h k
  case aastore => exact rs_aastore C hd hk hBC hBS h k
  case new => exact rs_new C hd hk hBC hBS h k
  case newarray => exact rs_newarray C hd hk hBC hBS h k
  case anewarray => exact rs_anewarray C hd hk hBC hBS h k
  all_goals cases h
end RVN
end
section
/-! Calls, runs and methods. -/
def rvOp (ad : List Nat) (ex : Nat → Nat → Nat) : Option rvV → Option Value → Prop
  | none, none => True
  | some a, some x => rvR ad ex a x
  | _, _ => False
def rvQ (D : va_G) (cT : Nat → ClassId) (ex : Nat → Nat → Nat) (ws : va_W) (sz : Nat) (r : Option rvV × rvH) : Array Value → State → Outcome → State → Prop := fun _ st oc t =>
  ∃ (v : Option Value) (w1 : va_W), oc = .returned v ∧ (∃ t1, rvAd w1 = rvAd ws ++ t1) ∧ rvWoo cT (rvAd w1) ex r.2 w1 ∧ rvOp (rvAd w1) ex r.1 v ∧ va_P D vwCl w1 t.heap ∧ va_D (va_A ws sz) w1 ∧ va_F (va_A ws sz) st t
def rvPc (D : va_G) (cT : Nat → ClassId) (ex : Nat → Nat → Nat) (ws : va_W) (sz : Nat) (xs : List Value) : Array Value → State → Prop :=
  va_Pc xs (fun U => U.heap.size = sz ∧ va_P D vwCl ws U.heap ∧ va_K D vwCl (rvTys cT) U ∧ va_D (fun _ => True) ws ∧ rvKx ex (va_A ws sz) U U.heap)
def rvRm (i : rvM) : Room := { frames := i.2.1, cells := i.2.2.1, slots := i.2.2.2.1, locals := i.2.2.2.2.1 }
/-- the contract of a method: what rvExec answers of it -/
def rvMet (l : Launch) (D : va_G) (cT : Nat → ClassId) (ex : Nat → Nat → Nat) (yn : Nat → MethodName) (cd : Nat → ByteArray) (info : Nat → rvM) (rets : Nat → Option FieldType) (j : Nat) (as : List rvV) (aw : rvH) (r : Option rvV × rvH) : Prop :=
  ∀ (ws : va_W) (xs : List Value) (sz : Nat), rvWoo cT (rvAd ws) ex aw ws → rvRs (rvAd ws) ex as xs →
    Met l (yn j) (.code (yn j) (cd j) (info j).1 (rets j) :: rvWl) (rvRm (info j)) (rvPc D cT ex ws sz xs) (rvQ D cT ex ws sz r) (info j).2.2.1 (info j).2.2.2.1 (va_A ws sz)
/-- what the tables say of a method -/
def rvMp (yn : Nat → MethodName) (cd : Nat → ByteArray) (info : Nat → rvM) (rets : Nat → Option FieldType) (kd : Nat → Nat × Nat) (j : Nat) : Prop :=
  plainName (yn j).cls = true ∧ ((yn j).cls ≠ "java/lang/invoke/MethodHandle" ∧ (yn j).cls ≠ "java/lang/invoke/VarHandle" ∧ (parseMethodDescriptor (yn j).desc).map (fun d => d.parameters.length) = some (kd j).2) ∧
  Cond.code (yn j) (cd j) (info j).1 (rets j) ∈ rvWl ∧ Cond.initialized (yn j).cls ∈ rvWl ∧
  ((kd j).1 = 0 → Cond.instanceMethod (yn j) ∈ rvWl ∧ Cond.selects (yn j).cls (yn j) (yn j) ∈ rvWl ∧ (((info j).2.2.2.2.2 < 13 ∧ rvCn (info j).2.2.2.2.2 = (yn j).cls) ∨ ((info j).2.2.2.2.2 = 100 ∧ (yn j).cls = "java/lang/String"))) ∧
  ((kd j).1 = 1 → Cond.static (yn j) ∈ rvWl) ∧ ((kd j).1 = 2 → Cond.instanceMethod (yn j) ∈ rvWl ∧ (yn j).name = "<init>" ∧ rets j = none)
def rvNw (wi : Nat) (own : String) (idx : Nat) (y : MethodName) : Bool := match lw_tbl[wi]? with
  | some (.methodLinkNest ow k y' _) => decide (ow = own) && (Nat.beq k idx && decide (y' = y))
  | _ => false
theorem rvNw_ok {wi idx : Nat} {own : String} {y : MethodName} (h : rvNw wi own idx y = true) : ∃ host, Cond.methodLinkNest own idx y host ∈ rvNl := by
  unfold rvNw at h
  split at h
  · rename_i ow k y' host he
    obtain ⟨h1, h2⟩ := rv_and h
    obtain ⟨h2, h3⟩ := rv_and h2
    have e1 := of_decide_eq_true h1
    have e2 := rv_beq h2
    have e3 := of_decide_eq_true h3
    subst e1; subst e2; subst e3
    exact ⟨host, List.mem_filter.mpr ⟨List.mem_of_getElem? he, rfl⟩⟩
  · cases h
/-- what a call links to -/
def rvCk (yn : Nat → MethodName) (kd : Nat → Nat × Nat) (NM : Nat) (own : String) (i : Instr) (a1 a2 a3 wi : Nat) : Bool := match i with
  | .invokevirtual idx => Nat.blt a1 NM && (Nat.beq (kd a1).1 0 && (Nat.beq (kd a1).2 a2 && rvW wi (.methodLink own idx (yn a1))))
  | .invokespecial idx => bif Nat.beq a3 9 then rvW wi (.methodLink own idx objectInit) else Nat.blt a1 NM && (Nat.beq (kd a1).1 2 && (Nat.beq (kd a1).2 a2 && (bif Nat.beq a3 0 then rvW wi (.methodLink own idx (yn a1)) else rvNw wi own idx (yn a1))))
  | .invokestatic idx => bif Nat.beq a3 8 then rvW wi (.methodLink own idx arraycopyName) else Nat.blt a1 NM && (Nat.beq (kd a1).1 1 && (Nat.beq (kd a1).2 a2 && (bif Nat.beq a3 0 then rvW wi (.methodLink own idx (yn a1)) else rvNw wi own idx (yn a1))))
  | _ => true
def rvTk (yn : Nat → MethodName) (kd : Nat → Nat × Nat) (NM : Nat) (own : String) (cc : ByteArray) (ini : Bool) (tab : Nat → Option rvE) : Prop :=
  ∀ (pc : Nat) (i : Instr) (len a1 a2 a3 wi : Nat), tab pc = some (i, len, a1, a2, a3, wi) → decode cc pc = .ok (i, rvSz i len) ∧ rvAux own ini i a1 a2 wi = true ∧ rvCk yn kd NM own i a1 a2 a3 wi = true
/-- the words of Object's constructor and of arraycopy -/
def rvBase : Prop := Cond.instanceMethod objectInit ∈ rvWl ∧ Cond.code objectInit ⟨#[0xb1]⟩ 1 none ∈ rvWl ∧ Cond.native arraycopyName ∈ rvWl ∧ Cond.static arraycopyName ∈ rvWl ∧ Cond.initialized "java/lang/System" ∈ rvWl
theorem rvGood_cons {w : Cond} {ws : List Cond} (h : w ∈ rvWl) (h2 : GoodIn rvWl ws) : GoodIn rvWl (w :: ws) := fun v hv => (List.mem_cons.mp hv).elim (fun e => by rw [e]; exact ⟨h, good_of_word (rvWl_good w h)⟩) (h2 v)
theorem rvGood_self : GoodIn rvWl rvWl := fun w h => ⟨h, good_of_word (rvWl_good w h)⟩
theorem rvOp_rs {ad : List Nat} {ex : Nat → Nat → Nat} {a : Option rvV} {v : Option Value} {rs : List rvV} {xs : List Value} (h : rvOp ad ex a v) (hs : rvRs ad ex rs xs) : rvRs ad ex (a.toList ++ rs) (v.toList ++ xs) := by
  cases a with
  | none =>
    cases v with
    | none => exact hs
    | some x => exact absurd h id
  | some a =>
    cases v with
    | none => exact absurd h id
    | some x => exact ⟨h, hs⟩
section RVC
variable {p : Program} {l : Launch} {e : Env} {R : Room} {s : State} {m : MethodId} {args : Array Value} {below : List Frame} {meth : Method} {c : Code} {Q : State → Prop} {cc : ByteArray} {own : String} {mL : Nat} {D : va_G} {cT cB : Nat → ClassId} {ex : Nat → Nat → Nat} {A : Nat → Prop} {sc : List (Int × Int)} {ini : Bool}
variable {yn : Nat → MethodName} {cd : Nat → ByteArray} {info : Nat → rvM} {rets : Nat → Option FieldType} {kd : Nat → Nat × Nat} {NM : Nat} {call : Nat → List rvV → rvH → rvO}
/-- which cells a callee may change are among the caller's -/
theorem rv_free {ws : va_W} {H : Heap} {locs : List Loc} (hD : va_D A ws) (hS : va_S A s.heap H locs) (hA : ∀ q, s.heap.size ≤ q → A q) : ∀ q, va_A ws H.size q → A q := by
  intro q h
  rcases h with ⟨k, e0, h⟩ | h
  · exact hD.2 k (q, e0) h
  · exact hA q (Nat.le_trans hS.1 h)
theorem rv_go {ws : va_W} {H : Heap} {locs : List Loc} {kc ks mc ms pc : Nat} {ls : Array Slot} {st0 rest : List Value} {a : Array Value} {r : Option rvV × rvH} {aw : rvH} {al rst : List rvV} (hA : ∀ q, s.heap.size ≤ q → A q) (hcB : ∀ q, q < 6 → cB q = cT q)
    (hr : va_Run p l e R s m args below meth c H locs kc ks mc ms (F0 m pc ls st0) rest (rvQ D cB ex ws H.size r a) (va_A ws H.size)) (hw : rvWo cT (rvAd ws) ex aw ws) (hl : rvLo (rvAd ws) ex mL al ls) (hs : rvRs (rvAd ws) ex rst rest) (hD : va_D A ws) (hS : va_S A s.heap H locs)
    (k : rvG p l e R s m args below meth c Q D cT ex A mL (pc + 3, al, r.1.toList ++ rst, r.2, kc + mc, ks + ms)) : W p l e R s m args below meth c H locs kc ks Q (F0 m pc ls st0) := by
  intro T hT X
  obtain ⟨v, st₀, t, T', L, h0, X', hL, e1, e2, ⟨v', w1, hv, ⟨t1, ht1⟩, hw1, ho, hP1, hD1, hz, hk⟩, st⟩ := hr T hT X
  cases hv
  rw [h0] at hz hk
  have hF := rv_free hD hS hA
  have hS1 : va_S A s.heap T'.heap (locs ++ L) := ⟨Nat.le_trans hS.1 (by rw [e1]; exact hz), fun q h1 h2 => by rw [e1, hk q (Nat.lt_of_lt_of_le h1 hS.1) (fun z => h2 (hF q z))]; exact hS.2.1 q h1 h2, fun q hq => by
      rcases List.mem_append.mp hq with h | h
      · exact hS.2.2 q h
      · exact hF _ (hL q h)⟩
  rw [← e1] at hP1
  have hw2 : rvWo cT (rvAd w1) ex r.2 w1 := ⟨rvWoo_c hcB hw1, fun k9 hk9 => by
    have h9 := hw.2 k9 hk9
    rw [ht1, List.getElem?_append_left (List.getElem?_eq_some_iff.mp h9).1]
    exact h9⟩
  obtain ⟨t2, a1, b1⟩ := k w1 T'.heap (locs ++ L) ls (v.toList ++ rest) hw2 (by rw [ht1]; exact rvLo_mono _ hl) (rvOp_rs ho (by rw [ht1]; exact rvRs_mono _ hs)) hP1 (hD1.weaken (fun _ q _ h => hF q.1 h)) hS1 T' rfl X'
  exact ⟨t2, st t2 a1, b1⟩
theorem rv_blind {ws : va_W} {sz : Nat} {xs : List Value} : FrameBlind (rvPc D cB ex ws sz xs) := fun a U g mk q => by
  obtain ⟨q0, q1, qP, qK, qD, qX⟩ := q
  exact ⟨q0, q1, qP, va_K.moved (u := U) (U := U.calling g mk a) (Vm.Alike.refl U.vm) qK, qD, rvKx_same (u := U) rfl qX⟩
theorem rv_pre {ws : va_W} {H : Heap} {locs : List Loc} {xs : List Value} (hK : va_K D vwCl (rvTys cB) s) (hX : rvKx ex A s s.heap) (hA : ∀ q, s.heap.size ≤ q → A q) (hP : va_P D vwCl ws H) (hD : va_D A ws) (hS : va_S A s.heap H locs) : ∀ U : State, U.heap = H → s.WarmedH U.vm → rvPc D cB ex ws H.size xs xs.toArray U := by
  intro U hU hW
  refine ⟨rfl, by rw [hU], by rw [hU]; exact hP, va_K.moved hW.alike hK, hD.weaken (fun _ _ _ _ => trivial), ?_⟩
  rw [hU]
  exact rvKx_warm hW (rvKx_narrow (rvKx_kept hX (fun a h1 h2 => hS.2.1 a h1 h2)) (rv_free hD hS hA))
theorem rvTys_c (hcB : ∀ q, q < 6 → cB q = cT q) : rvTys cT = rvTys cB := by
  simp only [rvTys, hcB 0 (by decide), hcB 1 (by decide), hcB 2 (by decide), hcB 3 (by decide), hcB 4 (by decide), hcB 5 (by decide)]
set_option maxHeartbeats 4000000 in
set_option maxRecDepth 100000 in
/-- a call of an own method -/
theorem rvInv_ok (C : rvCx p s m args meth c cc own mL D cT ex A ini sc) (hcB : ∀ q, q < 6 → cB q = cT q) (hM : ∀ j, j < NM → rvMp yn cd info rets kd j) (hcall : ∀ j as aw r, j < NM → call j as aw = some r → rvMet l D cB ex yn cd info rets j as aw r)
    {BF BC BS BL a1 a2 a3 wi pc kc ks len : Nat} {i : Instr} {virt : Bool} {al st : List rvV} {aw : rvH} {o : rvS} (hd : decode cc pc = .ok (i, rvSz i len)) (hk : rvCk yn kd NM own i a1 a2 a3 wi = true)
    (hi : (∃ idx, i = .invokevirtual idx ∧ virt = true) ∨ (∃ idx, i = .invokespecial idx ∧ virt = true ∧ Nat.beq a3 9 = false) ∨ (∃ idx, i = .invokestatic idx ∧ virt = false ∧ Nat.beq a3 8 = false))
    (hBF : BF ≤ R.frames) (hBC : BC ≤ R.cells) (hBS : BS ≤ R.slots) (hBL : BL ≤ R.locals)
    (h : rvInv call info BF BC BS BL a1 a2 virt pc al st aw kc ks = some o) (k : rvG p l e R s m args below meth c Q D cT ex A mL o) : rvG p l e R s m args below meth c Q D cT ex A mL (pc, al, st, aw, kc, ks) := by
  obtain ⟨hx, hb, hml, hown, hts, hK, hA, hX, hini, hsc⟩ := C
  intro ws H locs ls stk hw hl hs hP hD hS
  dsimp only at hw hl hs ⊢
  have hKB : va_K D vwCl (rvTys cB) s := by rw [← rvTys_c hcB]; exact hK
  have hwB : rvWoo cB (rvAd ws) ex aw ws := rvWoo_c (fun q hq => (hcB q hq).symm) hw.1
  have hls : ls.size = mL := by obtain ⟨-, l9, h9, -⟩ := hl; exact h9.1
  unfold rvInv at h
  split at h
  · rename_i as rest hpop
    rcases hinf : info a1 with ⟨mL', fr, ce, sl, lo, cls⟩
    rw [hinf] at h
    dsimp only at h
    cases hbud : (Nat.ble (fr + 1) BF && (Nat.ble (8 + (mL' + 11) + lo) BL && (Nat.ble (kc + ce) BC && Nat.ble (ks + sl) BS))) with
    | false => rw [hbud] at h; cases h
    | true =>
      rw [hbud] at h
      simp only [cond_true] at h
      obtain ⟨b1, b2⟩ := rv_and hbud
      obtain ⟨b2, b3⟩ := rv_and b2
      obtain ⟨b3, b4⟩ := rv_and b3
      have b1 := rv_ble b1
      have b2 := rv_ble b2
      have b3 := rv_ble b3
      have b4 := rv_ble b4
      have hmt : ∀ as' r, a1 < NM → call a1 as' aw = some r → ∀ xs, rvRs (rvAd ws) ex as' xs → Met l (yn a1) (.code (yn a1) (cd a1) mL' (rets a1) :: rvWl) (rvRm (info a1)) (rvPc D cB ex ws H.size xs) (rvQ D cB ex ws H.size r) ce sl (va_A ws H.size) := by
        intro as' r hj hc xs hxs
        have h9 := hcall a1 as' aw r hj hc ws xs H.size hwB hxs
        rw [hinf] at h9 ⊢
        exact h9
      have hrm : rvRm (info a1) = { frames := fr, cells := ce, slots := sl, locals := lo } := by rw [hinf]; rfl
      rw [hrm] at hmt
      obtain ⟨us, vs, rfl, hlen, hus, hvs⟩ := rvRs_pop a2 (ys := []) hpop hs trivial
      rw [List.append_nil] at hus
      have huslen : us.reverse.length = a2 := by rw [List.length_reverse]; exact hlen
      rcases hi with ⟨idx, rfl, rfl⟩ | ⟨idx, rfl, rfl, h9⟩ | ⟨idx, rfl, rfl, h9⟩
      · -- virtual
        obtain ⟨g1, g2⟩ := rv_and (show (Nat.blt a1 NM && (Nat.beq (kd a1).1 0 && (Nat.beq (kd a1).2 a2 && rvW wi (.methodLink own idx (yn a1))))) = true from hk)
        obtain ⟨g2, g3⟩ := rv_and g2
        obtain ⟨g3, g4⟩ := rv_and g3
        have g1 := rv_blt g1
        obtain ⟨m1, ⟨m2, m3, m4⟩, m5, m6, m7, -, -⟩ := hM a1 g1
        obtain ⟨m8, m9, m10⟩ := m7 (rv_beq g2)
        rw [rv_beq g3] at m4
        rw [hinf] at m5 m10
        dsimp only at m5 m10
        have cw : ∀ C, (yn a1).cls = C → CallW R s args own C idx (yn a1) (cd a1) mL' (rets a1) (.code (yn a1) (cd a1) mL' (rets a1) :: rvWl) { frames := fr, cells := ce, slots := sl, locals := lo } ce sl a2 := by
          intro C hC
          subst hC
          exact cwV a2 hts (rvGood_cons (rvW_ok g4) (rvGood_cons m8 (rvGood_cons m9 (rvGood_cons m6 (rvGood_cons m5 rvGood_self))))) rfl rfl rfl ⟨rfl, m2, m3, m4⟩ ⟨by show fr + 1 ≤ _; omega, by show 8 + (mL' + 11) + lo ≤ _; omega⟩
        simp only [cond_true] at h
        split at h
        · rename_i k0 rst
          split at h
          · rename_i ci fs hc0
            cases hcc : (Nat.beq ci cls && Nat.ble (rvWd rst) 8) with
            | false => rw [hcc] at h; cases h
            | true =>
              rw [hcc] at h
              simp only [cond_true] at h
              obtain ⟨f1, f2⟩ := rv_and hcc
              have f1 := rv_beq f1
              subst f1
              obtain ⟨x, stk1, rfl, ⟨q, hq, rfl⟩, hs1⟩ := rvRs_cons hvs
              obtain ⟨⟨a, e0⟩, hq1, fvs, he, hfvs⟩ := rvWo_get hw hc0
              have he : e0 = .inr (ci, fvs) := he
              subst he
              have hqa := rvAd_ref hq1 hq
              subst hqa
              have fin : ∀ r, call a1 (.inr (2, k0) :: as) aw = some r → rvG p l e R s m args below meth c Q D cT ex A mL (pc + 3, al, r.1.toList ++ rst, r.2, kc + ce, ks + sl) → W p l e R s m args below meth c H locs kc ks Q (F0 m pc ls (us ++ .ref q :: stk1)) := by
                intro r hcr kr
                have hM9 := hmt _ r g1 hcr (.ref q :: us.reverse) ⟨⟨q, hq, rfl⟩, hus⟩
                rcases m10 with ⟨m11, m12⟩ | ⟨m11, m12⟩
                · have hcl := (rvCl ci m11).2.1
                  refine rv_go hA hcB (va_runV (As := us.reverse) (rest := stk1) ⟨hx, hb, hml, hown, hts⟩ hM9 (cw (rvCn ci) m12.symm) ⟨rv_blind, va_recv hK hP hcl hq1, rv_pre hKB hX hA hP hD hS⟩ rfl huslen hls (by rw [List.reverse_reverse]) ?_ hd ⟨by omega, by omega⟩) hw hl hs1 hD hS kr
                  exact lv_room (by rw [rvRs_wd hs1]; exact rv_ble f2)
                · rw [m11] at hq1
                  obtain ⟨rr, hrr, -⟩ := hP k0 _ hq1
                  exact absurd hrr (by rw [rvCl_none (by omega)]; exact fun z => by cases z)
              split at h
              · rename_i v aw' hcr
                cases h
                exact fin _ hcr k
              · rename_i aw' hcr
                cases h
                exact fin _ hcr k
              · cases h
          · cases h
        · rename_i k0 rst
          cases hcc : ((Nat.beq cls 100 && Nat.beq k0 0) && Nat.ble (rvWd rst) 8) with
          | false => rw [hcc] at h; cases h
          | true =>
            rw [hcc] at h
            simp only [cond_true] at h
            obtain ⟨f1, f2⟩ := rv_and hcc
            obtain ⟨f0, f1⟩ := rv_and f1
            have f0 := rv_beq f0
            have f1 := rv_beq f1
            subst f1
            obtain ⟨x, stk1, rfl, hx3, hs1⟩ := rvRs_cons hvs
            have hx3 : x = .ref (ex 3 0) := hx3
            subst hx3
            have fin : ∀ r, call a1 (.inr (3, 0) :: as) aw = some r → rvG p l e R s m args below meth c Q D cT ex A mL (pc + 3, al, r.1.toList ++ rst, r.2, kc + ce, ks + sl) → W p l e R s m args below meth c H locs kc ks Q (F0 m pc ls (us ++ .ref (ex 3 0) :: stk1)) := by
              intro r hcr kr
              have hM9 := hmt _ r g1 hcr (.ref (ex 3 0) :: us.reverse) ⟨rfl, hus⟩
              have hstr : (yn a1).cls = "java/lang/String" := by
                rcases m10 with ⟨m11, m12⟩ | ⟨m11, m12⟩
                · omega
                · exact m12
              obtain ⟨-, -, -, -, hSt, -⟩ := id hX
              refine rv_go hA hcB (va_runV (As := us.reverse) (rest := stk1) ⟨hx, hb, hml, hown, hts⟩ hM9 (cw _ hstr) ⟨rv_blind, vk_recv (i := 0) hSt (by decide) hS, rv_pre hKB hX hA hP hD hS⟩ rfl huslen hls (by rw [List.reverse_reverse]) ?_ hd ⟨by omega, by omega⟩) hw hl hs1 hD hS kr
              exact lv_room (by rw [rvRs_wd hs1]; exact rv_ble f2)
            split at h
            · rename_i v aw' hcr
              cases h
              exact fin _ hcr k
            · rename_i aw' hcr
              cases h
              exact fin _ hcr k
            · cases h
        · cases h
      · -- a constructor
        have hk : (bif Nat.beq a3 9 then rvW wi (.methodLink own idx objectInit) else Nat.blt a1 NM && (Nat.beq (kd a1).1 2 && (Nat.beq (kd a1).2 a2 && (bif Nat.beq a3 0 then rvW wi (.methodLink own idx (yn a1)) else rvNw wi own idx (yn a1))))) = true := hk
        rw [h9] at hk
        obtain ⟨g1, g2⟩ := rv_and (show (Nat.blt a1 NM && (Nat.beq (kd a1).1 2 && (Nat.beq (kd a1).2 a2 && (bif Nat.beq a3 0 then rvW wi (.methodLink own idx (yn a1)) else rvNw wi own idx (yn a1))))) = true from hk)
        obtain ⟨g2, g3⟩ := rv_and g2
        obtain ⟨g3, g4⟩ := rv_and g3
        have g1 := rv_blt g1
        obtain ⟨m1, ⟨m2, m3, m4⟩, m5, m6, -, -, m7⟩ := hM a1 g1
        obtain ⟨m8, m9, m10⟩ := m7 (rv_beq g2)
        rw [rv_beq g3] at m4
        rw [hinf] at m5
        dsimp only at m5
        rw [m10] at m5 hmt
        simp only [cond_true] at h
        split at h
        · rename_i k0 rst
          split at h
          · rename_i ci fs hc0
            cases hcc : (Nat.beq ci cls && Nat.ble (rvWd rst) 8) with
            | false => rw [hcc] at h; cases h
            | true =>
              rw [hcc] at h
              simp only [cond_true] at h
              obtain ⟨f1, f2⟩ := rv_and hcc
              obtain ⟨x, stk1, rfl, ⟨q, hq, rfl⟩, hs1⟩ := rvRs_cons hvs
              have fin : ∀ r, call a1 (.inr (2, k0) :: as) aw = some r → rvG p l e R s m args below meth c Q D cT ex A mL (pc + 3, al, r.1.toList ++ rst, r.2, kc + ce, ks + sl) → W p l e R s m args below meth c H locs kc ks Q (F0 m pc ls (us ++ .ref q :: stk1)) := by
                intro r hcr kr
                have hM9 := hmt _ r g1 hcr (.ref q :: us.reverse) ⟨⟨q, hq, rfl⟩, hus⟩
                cases h3 : Nat.beq a3 0 with
                | true =>
                  rw [h3] at g4
                  refine rv_go hA hcB (va_runI (As := us.reverse) (rest := stk1) ⟨hx, hb, hml, hown, hts⟩ hM9 (cwI a2 hts (rvGood_cons m5 rvGood_self) rfl rfl rfl (hts _ m6) (hts _ (rvW_ok g4)) (hts _ m8) m9 ⟨m2, m3, m4⟩ ⟨by show fr + 1 ≤ _; omega, by show 8 + (mL' + 11) + lo ≤ _; omega⟩) ⟨rv_blind, rv_pre hKB hX hA hP hD hS⟩ rfl huslen hls (by rw [List.reverse_reverse]) ?_ hd ⟨by omega, by omega⟩) hw hl hs1 hD hS kr
                  exact lv_room (by rw [rvRs_wd hs1]; exact rv_ble f2)
                | false =>
                  rw [h3] at g4
                  obtain ⟨host, hhost⟩ := rvNw_ok g4
                  refine rv_go hA hcB (va_runIN (As := us.reverse) (rest := stk1) ⟨hx, hb, hml, hown, hts⟩ hM9 ⟨va_cnB a2 hts (rvGood_cons m5 rvGood_self) rfl rfl rfl (hX.1 _ hhost) (hts _ m6) ⟨m2, m3, m4⟩ ⟨by show fr + 1 ≤ _; omega, by show 8 + (mL' + 11) + lo ≤ _; omega⟩, m9, hts _ m8⟩ ⟨rv_blind, rv_pre hKB hX hA hP hD hS⟩ rfl huslen hls (by rw [List.reverse_reverse]) ?_ hd ⟨by omega, by omega⟩) hw hl hs1 hD hS kr
                  exact lv_room (by rw [rvRs_wd hs1]; exact rv_ble f2)
              split at h
              · rename_i v aw' hcr
                cases h
                exact fin _ hcr k
              · rename_i aw' hcr
                cases h
                exact fin _ hcr k
              · cases h
          · cases h
        · rename_i k0 rst
          cases hcc : ((Nat.beq cls 100 && Nat.beq k0 0) && Nat.ble (rvWd rst) 8) with
          | false => rw [hcc] at h; cases h
          | true =>
            rw [hcc] at h
            simp only [cond_true] at h
            obtain ⟨f1, f2⟩ := rv_and hcc
            obtain ⟨x, stk1, rfl, hx3, hs1⟩ := rvRs_cons hvs
            have hx3 : x = .ref (ex 3 k0) := hx3
            subst hx3
            have fin : ∀ r, call a1 (.inr (3, k0) :: as) aw = some r → rvG p l e R s m args below meth c Q D cT ex A mL (pc + 3, al, r.1.toList ++ rst, r.2, kc + ce, ks + sl) → W p l e R s m args below meth c H locs kc ks Q (F0 m pc ls (us ++ .ref (ex 3 k0) :: stk1)) := by
              intro r hcr kr
              have hM9 := hmt _ r g1 hcr (.ref (ex 3 k0) :: us.reverse) ⟨rfl, hus⟩
              cases h3 : Nat.beq a3 0 with
              | true =>
                rw [h3] at g4
                refine rv_go hA hcB (va_runI (As := us.reverse) (rest := stk1) ⟨hx, hb, hml, hown, hts⟩ hM9 (cwI a2 hts (rvGood_cons m5 rvGood_self) rfl rfl rfl (hts _ m6) (hts _ (rvW_ok g4)) (hts _ m8) m9 ⟨m2, m3, m4⟩ ⟨by show fr + 1 ≤ _; omega, by show 8 + (mL' + 11) + lo ≤ _; omega⟩) ⟨rv_blind, rv_pre hKB hX hA hP hD hS⟩ rfl huslen hls (by rw [List.reverse_reverse]) ?_ hd ⟨by omega, by omega⟩) hw hl hs1 hD hS kr
                exact lv_room (by rw [rvRs_wd hs1]; exact rv_ble f2)
              | false =>
                rw [h3] at g4
                obtain ⟨host, hhost⟩ := rvNw_ok g4
                refine rv_go hA hcB (va_runIN (As := us.reverse) (rest := stk1) ⟨hx, hb, hml, hown, hts⟩ hM9 ⟨va_cnB a2 hts (rvGood_cons m5 rvGood_self) rfl rfl rfl (hX.1 _ hhost) (hts _ m6) ⟨m2, m3, m4⟩ ⟨by show fr + 1 ≤ _; omega, by show 8 + (mL' + 11) + lo ≤ _; omega⟩, m9, hts _ m8⟩ ⟨rv_blind, rv_pre hKB hX hA hP hD hS⟩ rfl huslen hls (by rw [List.reverse_reverse]) ?_ hd ⟨by omega, by omega⟩) hw hl hs1 hD hS kr
                exact lv_room (by rw [rvRs_wd hs1]; exact rv_ble f2)
            split at h
            · rename_i v aw' hcr
              cases h
              exact fin _ hcr k
            · rename_i aw' hcr
              cases h
              exact fin _ hcr k
            · cases h
        · cases h
      · -- static
        have hk : (bif Nat.beq a3 8 then rvW wi (.methodLink own idx arraycopyName) else Nat.blt a1 NM && (Nat.beq (kd a1).1 1 && (Nat.beq (kd a1).2 a2 && (bif Nat.beq a3 0 then rvW wi (.methodLink own idx (yn a1)) else rvNw wi own idx (yn a1))))) = true := hk
        rw [h9] at hk
        obtain ⟨g1, g2⟩ := rv_and (show (Nat.blt a1 NM && (Nat.beq (kd a1).1 1 && (Nat.beq (kd a1).2 a2 && (bif Nat.beq a3 0 then rvW wi (.methodLink own idx (yn a1)) else rvNw wi own idx (yn a1))))) = true from hk)
        obtain ⟨g2, g3⟩ := rv_and g2
        obtain ⟨g3, g4⟩ := rv_and g3
        have g1 := rv_blt g1
        obtain ⟨m1, ⟨m2, m3, m4⟩, m5, m6, -, m7, -⟩ := hM a1 g1
        have m8 := m7 (rv_beq g2)
        rw [rv_beq g3] at m4
        rw [hinf] at m5
        dsimp only at m5
        simp only [cond_false] at h
        cases hcc : (Nat.ble (rvWd rest) 8) with
        | false => rw [hcc] at h; cases h
        | true =>
          rw [hcc] at h
          simp only [cond_true] at h
          have fin : ∀ r, call a1 as aw = some r → rvG p l e R s m args below meth c Q D cT ex A mL (pc + 3, al, r.1.toList ++ rest, r.2, kc + ce, ks + sl) → W p l e R s m args below meth c H locs kc ks Q (F0 m pc ls (us ++ vs)) := by
            intro r hcr kr
            have hM9 := hmt _ r g1 hcr us.reverse hus
            cases h3 : Nat.beq a3 0 with
            | true =>
              rw [h3] at g4
              refine rv_go hA hcB (va_runS (As := us.reverse) (rest := vs) ⟨hx, hb, hml, hown, hts⟩ hM9 (va_cwS a2 hts (rvGood_cons (rvW_ok g4) (rvGood_cons m8 (rvGood_cons m6 (rvGood_cons m5 rvGood_self)))) rfl rfl rfl ⟨m2, m3, m4⟩ ⟨by show fr + 1 ≤ _; omega, by show 8 + (mL' + 11) + lo ≤ _; omega⟩) ⟨rv_blind, rv_pre hKB hX hA hP hD hS⟩ rfl huslen hls (by rw [List.reverse_reverse]) ?_ hd ⟨by omega, by omega⟩) hw hl hvs hD hS kr
              exact lv_room (by rw [rvRs_wd hvs]; exact rv_ble hcc)
            | false =>
              rw [h3] at g4
              obtain ⟨host, hhost⟩ := rvNw_ok g4
              refine rv_go hA hcB (va_runSN (As := us.reverse) (rest := vs) ⟨hx, hb, hml, hown, hts⟩ hM9 ⟨va_cnB a2 hts (rvGood_cons m5 rvGood_self) rfl rfl rfl (hX.1 _ hhost) (hts _ m6) ⟨m2, m3, m4⟩ ⟨by show fr + 1 ≤ _; omega, by show 8 + (mL' + 11) + lo ≤ _; omega⟩, hts _ m8, trivial⟩ ⟨rv_blind, rv_pre hKB hX hA hP hD hS⟩ rfl huslen hls (by rw [List.reverse_reverse]) ?_ hd ⟨by omega, by omega⟩) hw hl hvs hD hS kr
              exact lv_room (by rw [rvRs_wd hvs]; exact rv_ble hcc)
          split at h
          · rename_i v aw' hcr
            cases h
            exact fin _ hcr k
          · rename_i aw' hcr
            cases h
            exact fin _ hcr k
          · cases h
  · cases h
end RVC
end
section
/-! Runs and methods: what rvRun and rvExec answer holds of the machine. -/
section RVR
variable {p : Program} {l : Launch} {e : Env} {R : Room} {s : State} {m : MethodId} {args : Array Value} {below : List Frame} {meth : Method} {c : Code} {Q : State → Prop} {cc : ByteArray} {own : String} {mL : Nat} {D : va_G} {cT cB : Nat → ClassId} {ex : Nat → Nat → Nat} {A : Nat → Prop} {sc : List (Int × Int)} {ini : Bool}
variable {yn : Nat → MethodName} {cd : Nat → ByteArray} {info : Nat → rvM} {rets : Nat → Option FieldType} {kd : Nat → Nat × Nat} {NM : Nat} {call : Nat → List rvV → rvH → rvO} {tab : Nat → Option rvE}
set_option maxHeartbeats 4000000 in
set_option maxRecDepth 100000 in
theorem rvCopy_ok (C : rvCx p s m args meth c cc own mL D cT ex A ini sc) (hB : rvBase) {BF BL wi pc kc ks idx : Nat} {al st : List rvV} {aw : rvH} {o : rvS} (hd : decode cc pc = .ok (.invokestatic idx, 3)) (hk : rvW wi (.methodLink own idx arraycopyName) = true) (hBF : BF ≤ R.frames) (hBL : BL ≤ R.locals)
    (h : rvCopy BF BL pc al st aw kc ks = some o) (k : rvG p l e R s m args below meth c Q D cT ex A mL o) : rvG p l e R s m args below meth c Q D cT ex A mL (pc, al, st, aw, kc, ks) := by
  obtain ⟨hx, hb, hml, hown, hts, hK, hA, hX, hini, hsc⟩ := C
  obtain ⟨-, -, hb3, hb4, hb5⟩ := hB
  intro ws H locs ls stk hw hl hs hP hD hS
  dsimp only at hw hl hs ⊢
  have hls : ls.size = mL := by obtain ⟨-, l9, h9, -⟩ := hl; exact h9.1
  unfold rvCopy at h
  split at h
  · rename_i n dp x0 sp y0 rst
    obtain ⟨y1, stk1, rfl, ⟨n1, rfl, p1, q1⟩, hs1⟩ := rvRs_cons hs
    obtain ⟨y2, stk2, rfl, ⟨n2, rfl, p2, q2⟩, hs2⟩ := rvRs_cons hs1
    obtain ⟨y3, stk3, rfl, ⟨qd, hqd, rfl⟩, hs3⟩ := rvRs_cons hs2
    obtain ⟨y4, stk4, rfl, ⟨n4, rfl, p4, q4⟩, hs4⟩ := rvRs_cons hs3
    obtain ⟨y5, stk5, rfl, ⟨qs, hqs, rfl⟩, hs5⟩ := rvRs_cons hs4
    split at h
    · rename_i m0 d ov m1 d1 ov1 hc1 hc2
      obtain ⟨hc, rfl⟩ := rv_bif h
      obtain ⟨c1, hc⟩ := rv_and hc
      obtain ⟨c2, hc⟩ := rv_and hc
      obtain ⟨c3, hc⟩ := rv_and hc
      obtain ⟨c4, hc⟩ := rv_and hc
      obtain ⟨c5, hc⟩ := rv_and hc
      obtain ⟨c6, hc⟩ := rv_and hc
      obtain ⟨c7, hc⟩ := rv_and hc
      obtain ⟨c8, hc⟩ := rv_and hc
      obtain ⟨c9, c10⟩ := rv_and hc
      have c3 := rv_beq c3
      subst c3
      have c2 := of_decide_eq_true c2
      have c5 := of_decide_eq_true c5
      have c7 := of_decide_eq_true c7
      have c8 := rv_ble c8
      have c9 := rv_ble c9
      have c10 := rv_blt c10
      obtain ⟨e1, -⟩ := rv_one c1 p1 q1
      obtain ⟨e2, -⟩ := rv_one c4 p2 q2
      obtain ⟨e4, -⟩ := rv_one c6 p4 q4
      obtain ⟨⟨as, es⟩, hqs1, hces⟩ := rvWo_get hw hc1
      obtain ⟨⟨adr, ed⟩, hqd1, hced⟩ := rvWo_get hw hc2
      have hqa := rvAd_ref hqs1 hqs
      subst hqa
      have hqb := rvAd_ref hqd1 hqd
      subst hqb
      rcases hces with ⟨-, f, hes, hf⟩ | ⟨h0, -⟩ | ⟨h0, -⟩
      · rcases hced with ⟨-, g, hed, hg⟩ | ⟨h0, -⟩ | ⟨h0, -⟩
        · have hes : es = .inl (cT 0, m0, .inl f) := hes
          subst hes
          have hed : ed = .inl (cT 0, m0, .inl g) := hed
          subst hed
          have z1 : ∀ z : Int32, z.toInt = 0 → ¬ z < 0 ∧ z.toNatClampNeg = 0 := fun z hz => ⟨by
            rw [Int32.lt_iff_toInt_lt]
            show ¬ z.toInt < 0
            omega, by
            show z.toInt.toNat = 0
            omega⟩
          obtain ⟨w1, w2⟩ := z1 n4 (by omega)
          obtain ⟨w3, w4⟩ := z1 n2 (by omega)
          have w5 : ¬ n1 < 0 := by
            rw [Int32.lt_iff_toInt_lt]
            show ¬ n1.toInt < 0
            omega
          have w6 : n1.toNatClampNeg = m0 := by
            show n1.toInt.toNat = m0
            omega
          refine va_copyi (D := D) hx hb (by rw [hml, hls]) hown (hts _ (rvW_ok hk)) (hts _ hb3) (hts _ hb4) (hts _ hb5) hK hP hD hS y0 x0 0 0 hqs1 hqd1 rfl rfl rfl w1 w3 w5 (by rw [w2, w6]; omega) (by rw [w4, w6]; omega) (fun i _ => rfl) (by omega) ?_ hd (fun H1 locs1 hP1 hD1 hS1 => ?_)
          · rw [rvRs_wd hs5]
            have : nativeFrameWords "java/lang/System" "arraycopy" 5 + 11 ≤ 60 := by decide +kernel
            omega
          · have ea := rvAd_set (e := .inl (cT 0, m0, .inl (va_cpy f g n4.toNatClampNeg n2.toNatClampNeg n1.toNatClampNeg))) hqd1
            refine k _ H1 locs1 ls stk5 ?_ ?_ ?_ hP1 hD1 hS1
            · rw [ea]
              refine rvWo_set hw (Or.inl ⟨by decide, _, rfl, fun j hj => ?_⟩)
              have ej : va_cpy f g n4.toNatClampNeg n2.toNatClampNeg n1.toNatClampNeg j = f j := by
                rw [w2, w4, w6]
                exact sb_cpy0 hj
              rw [ej]
              exact hf j hj
            · rw [ea]; exact hl
            · rw [ea]; exact hs5
        · exact absurd h0 (by decide)
        · exact absurd h0 (by decide)
      · exact absurd h0 (by decide)
      · exact absurd h0 (by decide)
    · cases h
  · cases h
set_option maxHeartbeats 4000000 in
set_option maxRecDepth 100000 in
theorem rvNext_ok (C : rvCx p s m args meth c cc own mL D cT ex A ini sc) (hB : rvBase) (hcB : ∀ q, q < 6 → cB q = cT q) (hM : ∀ j, j < NM → rvMp yn cd info rets kd j) (hcall : ∀ j as aw r, j < NM → call j as aw = some r → rvMet l D cB ex yn cd info rets j as aw r) (hT : rvTk yn kd NM own cc ini tab)
    {stop BF BC BS BL pc kc ks : Nat} {al st : List rvV} {aw : rvH} {o : rvS} (hBF : BF ≤ R.frames) (hBC : BC ≤ R.cells) (hBS : BS ≤ R.slots) (hBL : BL ≤ R.locals)
    (h : rvNext rvTy rvNf rvTxt sc call info tab stop BF BC BS BL mL pc al st aw kc ks = some (some o)) (k : rvG p l e R s m args below meth c Q D cT ex A mL o) : rvG p l e R s m args below meth c Q D cT ex A mL (pc, al, st, aw, kc, ks) := by
  unfold rvNext at h
  cases hst : Nat.beq pc stop with
  | true => rw [hst] at h; cases h
  | false =>
    rw [hst] at h
    simp only [cond_false] at h
    split at h
    · cases h
    · rename_i i len a1 a2 a3 wi htab
      obtain ⟨hd, hk1, hk2⟩ := hT pc i len a1 a2 a3 wi htab
      split at h
      · cases h
      · cases h
      · cases h
      · cases h
      · rename_i idx
        split at h
        · rename_i s9 hs9
          cases h
          exact rvInv_ok C hcB hM hcall hd hk2 (Or.inl ⟨idx, rfl, rfl⟩) hBF hBC hBS hBL hs9 k
        · cases h
      · rename_i idx
        cases h9 : Nat.beq a3 9 with
        | true =>
          rw [h9] at h
          simp only [cond_true] at h
          split at h
          · rename_i z rst
            cases hcc : (Nat.ble 1 BF && Nat.ble (rvWd rst + 12) BL) with
            | false => rw [hcc] at h; cases h
            | true =>
              rw [hcc] at h
              cases h
              obtain ⟨c1, c2⟩ := rv_and hcc
              have c1 := rv_ble c1
              have c2 := rv_ble c2
              have hk2 : (bif Nat.beq a3 9 then rvW wi (.methodLink own idx objectInit) else Nat.blt a1 NM && (Nat.beq (kd a1).1 2 && (Nat.beq (kd a1).2 a2 && (bif Nat.beq a3 0 then rvW wi (.methodLink own idx (yn a1)) else rvNw wi own idx (yn a1))))) = true := hk2
              rw [h9] at hk2
              obtain ⟨hx, hb, hml, hown, hts, hK, hA, hX, hini, hsc⟩ := C
              intro ws H locs ls stk hw hl hs hP hD hS
              dsimp only at hw hl hs ⊢
              have hls : ls.size = mL := by obtain ⟨-, l9, hz9, -⟩ := hl; exact hz9.1
              obtain ⟨x, stk1, rfl, ⟨q, hq, rfl⟩, hs1⟩ := rvRs_cons hs
              refine W.objInit hx hb hown (hts _ (rvW_ok hk2)) (hts _ hB.1) (hts _ hB.2.1) rfl (by rw [hml]; exact hls) rfl hd (by omega) ?_ ?_
              · show 2 * 0 + (stk1.map fun v => v.category).sum + 12 ≤ R.locals
                rw [rvRs_wd hs1]
                omega
              · exact W.eq (g2 := F0 m (pc + 3) ls stk1) rfl (k ws H locs ls _ hw hl hs1 hP hD hS)
          · cases h
        | false =>
          rw [h9] at h
          simp only [cond_false] at h
          split at h
          · rename_i s9 hs9
            cases h
            exact rvInv_ok C hcB hM hcall hd hk2 (Or.inr (Or.inl ⟨idx, rfl, rfl, h9⟩)) hBF hBC hBS hBL hs9 k
          · cases h
      · rename_i idx
        cases h9 : Nat.beq a3 8 with
        | true =>
          rw [h9] at h
          simp only [cond_true] at h
          have hk2 : (bif Nat.beq a3 8 then rvW wi (.methodLink own idx arraycopyName) else Nat.blt a1 NM && (Nat.beq (kd a1).1 1 && (Nat.beq (kd a1).2 a2 && (bif Nat.beq a3 0 then rvW wi (.methodLink own idx (yn a1)) else rvNw wi own idx (yn a1))))) = true := hk2
          rw [h9] at hk2
          split at h
          · rename_i s9 hs9
            cases h
            exact rvCopy_ok C hB hd hk2 hBF hBL hs9 k
          · cases h
        | false =>
          rw [h9] at h
          simp only [cond_false] at h
          split at h
          · rename_i s9 hs9
            cases h
            exact rvInv_ok C hcB hM hcall hd hk2 (Or.inr (Or.inr ⟨idx, rfl, rfl, h9⟩)) hBF hBC hBS hBL hs9 k
          · cases h
      · split at h
        · rename_i s9 hs9
          cases h
          exact rvStep_ok C hd hk1 hBC hBS hs9 k
        · cases h
theorem rvRun_ok (C : rvCx p s m args meth c cc own mL D cT ex A ini sc) (hB : rvBase) (hcB : ∀ q, q < 6 → cB q = cT q) (hM : ∀ j, j < NM → rvMp yn cd info rets kd j) (hcall : ∀ j as aw r, j < NM → call j as aw = some r → rvMet l D cB ex yn cd info rets j as aw r) (hT : rvTk yn kd NM own cc ini tab)
    {stop BF BC BS BL : Nat} (hBF : BF ≤ R.frames) (hBC : BC ≤ R.cells) (hBS : BS ≤ R.slots) (hBL : BL ≤ R.locals) {o : rvS} (k : rvG p l e R s m args below meth c Q D cT ex A mL o) :
    ∀ (n pc : Nat) (al st : List rvV) (aw : rvH) (kc ks : Nat), rvRun rvTy rvNf rvTxt sc call info tab stop BF BC BS BL mL n pc al st aw kc ks = some o → rvG p l e R s m args below meth c Q D cT ex A mL (pc, al, st, aw, kc, ks)
  | 0, pc, al, st, aw, kc, ks, h => by
      have h : some (pc, al, st, aw, kc, ks) = some o := h
      cases h
      exact k
  | n + 1, pc, al, st, aw, kc, ks, h => by
      have h : (match rvNext rvTy rvNf rvTxt sc call info tab stop BF BC BS BL mL pc al st aw kc ks with
        | none => none
        | some none => some (pc, al, st, aw, kc, ks)
        | some (some (pc, al, st, aw, kc, ks)) => rvRun rvTy rvNf rvTxt sc call info tab stop BF BC BS BL mL n pc al st aw kc ks) = some o := h
      split at h
      · cases h
      · cases h
        exact k
      · rename_i pc1 al1 st1 aw1 kc1 ks1 hn
        exact rvNext_ok C hB hcB hM hcall hT hBF hBC hBS hBL hn (rvRun_ok C hB hcB hM hcall hT hBF hBC hBS hBL k n pc1 al1 st1 aw1 kc1 ks1 h)
end RVR
section RVM
variable {l : Launch} {D : va_G} {cB : Nat → ClassId} {ex : Nat → Nat → Nat} {yn : Nat → MethodName} {cd : Nat → ByteArray} {info : Nat → rvM} {rets : Nat → Option FieldType} {kd : Nat → Nat × Nat} {NM : Nat} {tabs : Nat → Nat → Option rvE} {orc : Nat → List rvV → rvH → rvO}
set_option maxHeartbeats 4000000 in
set_option maxRecDepth 100000 in
/-- a method by a run of its body -/
theorem rvBody_ok {call : Nat → List rvV → rvH → rvO} (hB : rvBase) (hM : ∀ j, j < NM → rvMp yn cd info rets kd j) (hT : ∀ j, j < NM → rvTk yn kd NM (yn j).cls (cd j) (decide ((yn j).name = "<init>")) (tabs j))
    (hcall : ∀ j as aw r, j < NM → call j as aw = some r → rvMet l D cB ex yn cd info rets j as aw r) {n j : Nat} (hj : j < NM) {as : List rvV} {aw : rvH} {r : Option rvV × rvH} (hent : rvLen (rvEnt as) ≤ (info j).1)
    (h : rvEnd (tabs j) (rets j) (info j).2.2.1 (info j).2.2.2.1 (rvRun rvTy rvNf rvTxt [] call info (tabs j) 99999999 (info j).2.1 (info j).2.2.1 (info j).2.2.2.1 (info j).2.2.2.2.1 (info j).1 n 0 (rvEnt as ++ List.replicate ((info j).1 - rvLen (rvEnt as)) rvU) [] aw 0 0) = some r) : rvMet l D cB ex yn cd info rets j as aw r := by
  intro ws xs sz hw hxs
  obtain ⟨m1, -, -, -, -, -, -⟩ := hM j hj
  refine Met.ofW (cc := cd j) (maxL := (info j).1) (ret := rets j) m1 rfl ?_
  intro p e s m args below meth c s₁ B hml hv
  obtain ⟨rfl, hsz, hP, hK, hD0, hX⟩ := hv
  subst hsz
  have hx := B.exec
  have hb := B.bytes
  have hr := B.returns
  have hlocks := B.notSynchronized
  have hown : s.vm.findClass (yn j).cls = some m.cls := findClass_of_methodNamed B.named
  have hts : ∀ w ∈ rvWl, w.before xs.toArray s = true := fun w hw9 => atoms_spec (ws := Cond.code (yn j) (cd j) (info j).1 (rets j) :: rvWl) B.pre w (List.mem_cons_of_mem _ hw9)
  have hnm : meth.name = (yn j).name := (name_of_methodNamed B.named B.method).1
  have hD := hD0.self (sz := s.heap.size)
  have hA : ∀ q : Nat, s.heap.size ≤ q → va_A ws s.heap.size q := fun q h9 => Or.inr h9
  have hcB : ∀ q, q < 6 → cB q = rvCt cB (rvAd ws) q := rvCt_c cB (rvAd ws)
  have C : rvCx p s m xs.toArray meth c (cd j) (yn j).cls (info j).1 D (rvCt cB (rvAd ws)) ex (va_A ws s.heap.size) (decide ((yn j).name = "<init>")) [] :=
    ⟨hx, hb, hml, hown, hts, by rw [rvTys_c hcB]; exact hK, hA, hX, fun q => by rw [hnm]; exact of_decide_eq_true q, Or.inl rfl⟩
  unfold rvEnd at h
  split at h
  · rename_i pc1 al1 st1 aw1 kc1 ks1 hrun
    cases hbud : (Nat.ble kc1 (info j).2.2.1 && Nat.ble ks1 (info j).2.2.2.1) with
    | false => rw [hbud] at h; cases h
    | true =>
      rw [hbud] at h
      simp only [cond_true] at h
      obtain ⟨b1, b2⟩ := rv_and hbud
      have b1 := rv_ble b1
      have b2 := rv_ble b2
      have key : rvG p l e (headSpec (Cond.code (yn j) (cd j) (info j).1 (rets j) :: rvWl) (rvRm (info j))).room s m xs.toArray below meth c (MQ below (rvQ D cB ex ws s.heap.size r) xs.toArray s (info j).2.2.1 (info j).2.2.2.1 (va_A ws s.heap.size)) D (rvCt cB (rvAd ws)) ex (va_A ws s.heap.size) (info j).1 (pc1, al1, st1, aw1, kc1, ks1) := by
        intro ws1 H locs ls stk hw1 hl1 hs1 hP1 hD1 hS1
        dsimp only at hw1 hl1 hs1 ⊢
        obtain ⟨hw2, t1, ht1⟩ := rvWo_out hw1
        refine W.widen (k := (info j).2.2.1) (n := (info j).2.2.2.1) b1 b2 ?_
        split at h
        · rename_i i0 rst htab
          obtain ⟨hd, -, -⟩ := hT j hj pc1 .ireturn _ _ _ _ _ htab
          split at h
          · rename_i a ty hty
            obtain ⟨hc, rfl⟩ := rv_bif h
            obtain ⟨x, stk1, rfl, ⟨n1, rfl, p1, q1⟩, hs2⟩ := rvRs_cons hs1
            have hnil := rvRs_nil hs2
            subst hnil
            obtain ⟨g1, -⟩ := rvFit_ok (ad := rvAd ws1) (ex := ex) hc ⟨n1, rfl, p1, q1⟩
            exact W.zret hx hb (hr.trans hty) g1 (fun t ht hW => ⟨_, ws1, rfl, ⟨t1, ht1⟩, hw2, ⟨n1, rfl, p1, q1⟩, by rw [ht]; exact hP1, hD1, hS1.F ht⟩) hS1.2.2 hd
          · cases h
        · rename_i i0 rst htab
          obtain ⟨hd, -, -⟩ := hT j hj pc1 .lreturn _ _ _ _ _ htab
          split at h
          · rename_i z hty
            cases h
            obtain ⟨x, stk1, rfl, ⟨n1, rfl⟩, hs2⟩ := rvRs_cons hs1
            have hnil := rvRs_nil hs2
            subst hnil
            exact W.lret hx hb (hr.trans hty) (fun t ht hW => ⟨_, ws1, rfl, ⟨t1, ht1⟩, hw2, ⟨n1, rfl⟩, by rw [ht]; exact hP1, hD1, hS1.F ht⟩) hS1.2.2 hd
          · cases h
        · rename_i i0 rst htab
          obtain ⟨hd, -, -⟩ := hT j hj pc1 .return_ _ _ _ _ _ htab
          split at h
          · rename_i hty
            cases h
            have hnil := rvRs_nil hs1
            subst hnil
            exact W.vret hx hb (hr.trans hty) (fun t ht hW => ⟨none, ws1, rfl, ⟨t1, ht1⟩, hw2, trivial, by rw [ht]; exact hP1, hD1, hS1.F ht⟩) hS1.2.2 hd
          · cases h
        · cases h
      have hg := rvRun_ok C hB hcB hM hcall (hT j hj) (Nat.le_refl (info j).2.1) (Nat.le_refl (info j).2.2.1) (Nat.le_refl (info j).2.2.2.1) (Nat.le_refl (info j).2.2.2.2.1) key n 0 _ [] aw 0 0 hrun
      rw [lg_entry_eq]
      exact hg ws s.heap [] _ [] (rvWo_in hw) (rvLo_entry hxs hent) trivial hP hD va_S.rf
  · cases h
theorem rvExec_ok (hB : rvBase) (hM : ∀ j, j < NM → rvMp yn cd info rets kd j) (hT : ∀ j, j < NM → rvTk yn kd NM (yn j).cls (cd j) (decide ((yn j).name = "<init>")) (tabs j))
    (horc : ∀ j as aw r, j < NM → orc j as aw = some r → rvMet l D cB ex yn cd info rets j as aw r) (n : Nat) : ∀ (d j : Nat) (as : List rvV) (aw : rvH) (r : Option rvV × rvH), j < NM → rvExec rvTy rvNf rvTxt orc info rets tabs n d j as aw = some r → rvMet l D cB ex yn cd info rets j as aw r
  | 0, j, as, aw, r, hj, h => horc j as aw r hj h
  | d + 1, j, as, aw, r, hj, h => by
      have h : (match orc j as aw with
        | some r => some r
        | none => match info j with
          | (mL, fr, ce, sl, lo, _) => bif Nat.ble (rvLen (rvEnt as)) mL then rvEnd (tabs j) (rets j) ce sl (rvRun rvTy rvNf rvTxt [] (rvExec rvTy rvNf rvTxt orc info rets tabs n d) info (tabs j) 99999999 fr ce sl lo mL n 0 (rvEnt as ++ List.replicate (mL - rvLen (rvEnt as)) rvU) [] aw 0 0) else none) = some r := h
      split at h
      · rename_i r9 h9
        cases h
        exact horc j as aw r hj h9
      · rcases hinf : info j with ⟨mL, fr, ce, sl, lo, cls⟩
        rw [hinf] at h
        dsimp only at h
        cases hb : Nat.ble (rvLen (rvEnt as)) mL with
        | false => rw [hb] at h; cases h
        | true =>
          rw [hb] at h
          simp only [cond_true] at h
          refine rvBody_ok hB hM hT (fun j9 as9 aw9 r9 hj9 h9 => rvExec_ok hB hM hT horc n d j9 as9 aw9 r9 hj9 h9) (n := n) hj (by rw [hinf]; exact rv_ble hb) ?_
          rw [hinf]
          exact h
end RVM
end
