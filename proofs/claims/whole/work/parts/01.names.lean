-- ===== PART A: goes FIRST, ahead of the names: the tables' words, and 'selects' of the private methods out of them =====
/-- a private method of a class that the tables say can be made, by its rows of tables_1 -/
def lw_okq (q : MethodName × Nat) : Prop := (q.1.cls ≠ "java/lang/invoke/MethodHandle" ∧ q.1.cls ≠ "java/lang/invoke/VarHandle") ∧ Cond.instantiable q.1.cls q.2 ∈ tables_1 ∧ Cond.privateMethod q.1 ∈ tables_1 ∧ Cond.instanceMethod q.1 ∈ tables_1
theorem lw_p0 : lw_okq (⟨"StageHouse$Tape", "scanWord", "()V"⟩, 10) := ⟨⟨by decide +kernel, by decide +kernel⟩, List.mem_of_getElem? (i := 32) (by decide +kernel), List.mem_of_getElem? (i := 583) (by decide +kernel), List.mem_of_getElem? (i := 584) (by decide +kernel)⟩
theorem lw_p1 : lw_okq (⟨"StageHouse$Tape", "scanNumber", "()V"⟩, 10) := ⟨⟨by decide +kernel, by decide +kernel⟩, List.mem_of_getElem? (i := 32) (by decide +kernel), List.mem_of_getElem? (i := 587) (by decide +kernel), List.mem_of_getElem? (i := 588) (by decide +kernel)⟩
theorem lw_p2 : lw_okq (⟨"StageHouse$Script", "readHead", "(LStageHouse$Tape;)V"⟩, 14) := ⟨⟨by decide +kernel, by decide +kernel⟩, List.mem_of_getElem? (i := 184) (by decide +kernel), List.mem_of_getElem? (i := 681) (by decide +kernel), List.mem_of_getElem? (i := 682) (by decide +kernel)⟩
theorem lw_p3 : lw_okq (⟨"StageHouse$Script", "readName", "(LStageHouse$Tape;)I"⟩, 14) := ⟨⟨by decide +kernel, by decide +kernel⟩, List.mem_of_getElem? (i := 184) (by decide +kernel), List.mem_of_getElem? (i := 713) (by decide +kernel), List.mem_of_getElem? (i := 714) (by decide +kernel)⟩
theorem lw_p4 : lw_okq (⟨"StageHouse$Script", "readOptions", "(LStageHouse$Tape;)V"⟩, 14) := ⟨⟨by decide +kernel, by decide +kernel⟩, List.mem_of_getElem? (i := 184) (by decide +kernel), List.mem_of_getElem? (i := 729) (by decide +kernel), List.mem_of_getElem? (i := 730) (by decide +kernel)⟩
theorem lw_p5 : lw_okq (⟨"StageHouse$Script", "readOption", "(LStageHouse$Tape;I)V"⟩, 14) := ⟨⟨by decide +kernel, by decide +kernel⟩, List.mem_of_getElem? (i := 184) (by decide +kernel), List.mem_of_getElem? (i := 742) (by decide +kernel), List.mem_of_getElem? (i := 743) (by decide +kernel)⟩
theorem lw_p6 : lw_okq (⟨"StageHouse$Script", "readBody", "(LStageHouse$Tape;)V"⟩, 14) := ⟨⟨by decide +kernel, by decide +kernel⟩, List.mem_of_getElem? (i := 184) (by decide +kernel), List.mem_of_getElem? (i := 746) (by decide +kernel), List.mem_of_getElem? (i := 747) (by decide +kernel)⟩
theorem lw_p7 : lw_okq (⟨"StageHouse$Script", "readAct", "(LStageHouse$Tape;)V"⟩, 14) := ⟨⟨by decide +kernel, by decide +kernel⟩, List.mem_of_getElem? (i := 184) (by decide +kernel), List.mem_of_getElem? (i := 755) (by decide +kernel), List.mem_of_getElem? (i := 756) (by decide +kernel)⟩
theorem lw_p8 : lw_okq (⟨"StageHouse", "closeText", "(I)I"⟩, 9) := ⟨⟨by decide +kernel, by decide +kernel⟩, List.mem_of_getElem? (i := 24) (by decide +kernel), List.mem_of_getElem? (i := 792) (by decide +kernel), List.mem_of_getElem? (i := 793) (by decide +kernel)⟩
theorem lw_p9 : lw_okq (⟨"StageHouse$Rig", "readOr", "(LStageHouse$Tape;I)V"⟩, 5) := ⟨⟨by decide +kernel, by decide +kernel⟩, List.mem_of_getElem? (i := 86) (by decide +kernel), List.mem_of_getElem? (i := 805) (by decide +kernel), List.mem_of_getElem? (i := 806) (by decide +kernel)⟩
theorem lw_p10 : lw_okq (⟨"StageHouse$Rig", "readNot", "(LStageHouse$Tape;I)V"⟩, 5) := ⟨⟨by decide +kernel, by decide +kernel⟩, List.mem_of_getElem? (i := 86) (by decide +kernel), List.mem_of_getElem? (i := 809) (by decide +kernel), List.mem_of_getElem? (i := 810) (by decide +kernel)⟩
theorem lw_p11 : lw_okq (⟨"StageHouse$Rig", "readTerm", "(LStageHouse$Tape;)V"⟩, 5) := ⟨⟨by decide +kernel, by decide +kernel⟩, List.mem_of_getElem? (i := 86) (by decide +kernel), List.mem_of_getElem? (i := 814) (by decide +kernel), List.mem_of_getElem? (i := 815) (by decide +kernel)⟩
theorem lw_p12 : lw_okq (⟨"StageHouse$Rig", "emit", "(III)V"⟩, 5) := ⟨⟨by decide +kernel, by decide +kernel⟩, List.mem_of_getElem? (i := 86) (by decide +kernel), List.mem_of_getElem? (i := 827) (by decide +kernel), List.mem_of_getElem? (i := 828) (by decide +kernel)⟩
theorem lw_p13 : lw_okq (⟨"StageHouse$Prices", "readRule", "(LStageHouse$Tape;I)V"⟩, 3) := ⟨⟨by decide +kernel, by decide +kernel⟩, List.mem_of_getElem? (i := 358) (by decide +kernel), List.mem_of_getElem? (i := 853) (by decide +kernel), List.mem_of_getElem? (i := 854) (by decide +kernel)⟩
theorem lw_p14 : lw_okq (⟨"StageHouse$Prices", "readCondition", "(LStageHouse$Tape;I)V"⟩, 3) := ⟨⟨by decide +kernel, by decide +kernel⟩, List.mem_of_getElem? (i := 358) (by decide +kernel), List.mem_of_getElem? (i := 857) (by decide +kernel), List.mem_of_getElem? (i := 858) (by decide +kernel)⟩
theorem lw_p15 : lw_okq (⟨"StageHouse$Prices", "readChange", "(LStageHouse$Tape;I)V"⟩, 3) := ⟨⟨by decide +kernel, by decide +kernel⟩, List.mem_of_getElem? (i := 358) (by decide +kernel), List.mem_of_getElem? (i := 866) (by decide +kernel), List.mem_of_getElem? (i := 867) (by decide +kernel)⟩
def lw_privs_1 : List (MethodName × Nat) := [(⟨"StageHouse$Tape", "scanWord", "()V"⟩, 10), (⟨"StageHouse$Tape", "scanNumber", "()V"⟩, 10), (⟨"StageHouse$Script", "readHead", "(LStageHouse$Tape;)V"⟩, 14), (⟨"StageHouse$Script", "readName", "(LStageHouse$Tape;)I"⟩, 14), (⟨"StageHouse$Script", "readOptions", "(LStageHouse$Tape;)V"⟩, 14), (⟨"StageHouse$Script", "readOption", "(LStageHouse$Tape;I)V"⟩, 14), (⟨"StageHouse$Script", "readBody", "(LStageHouse$Tape;)V"⟩, 14), (⟨"StageHouse$Script", "readAct", "(LStageHouse$Tape;)V"⟩, 14), (⟨"StageHouse", "closeText", "(I)I"⟩, 9), (⟨"StageHouse$Rig", "readOr", "(LStageHouse$Tape;I)V"⟩, 5), (⟨"StageHouse$Rig", "readNot", "(LStageHouse$Tape;I)V"⟩, 5), (⟨"StageHouse$Rig", "readTerm", "(LStageHouse$Tape;)V"⟩, 5), (⟨"StageHouse$Rig", "emit", "(III)V"⟩, 5), (⟨"StageHouse$Prices", "readRule", "(LStageHouse$Tape;I)V"⟩, 3), (⟨"StageHouse$Prices", "readCondition", "(LStageHouse$Tape;I)V"⟩, 3), (⟨"StageHouse$Prices", "readChange", "(LStageHouse$Tape;I)V"⟩, 3)]
theorem lw_r1 : ∀ q ∈ lw_privs_1, lw_okq q := List.forall_mem_cons.mpr ⟨lw_p0, List.forall_mem_cons.mpr ⟨lw_p1, List.forall_mem_cons.mpr ⟨lw_p2, List.forall_mem_cons.mpr ⟨lw_p3, List.forall_mem_cons.mpr ⟨lw_p4, List.forall_mem_cons.mpr ⟨lw_p5, List.forall_mem_cons.mpr ⟨lw_p6, List.forall_mem_cons.mpr ⟨lw_p7, List.forall_mem_cons.mpr ⟨lw_p8, List.forall_mem_cons.mpr ⟨lw_p9, List.forall_mem_cons.mpr ⟨lw_p10, List.forall_mem_cons.mpr ⟨lw_p11, List.forall_mem_cons.mpr ⟨lw_p12, List.forall_mem_cons.mpr ⟨lw_p13, List.forall_mem_cons.mpr ⟨lw_p14, List.forall_mem_cons.mpr ⟨lw_p15, fun _ h => absurd h List.not_mem_nil⟩⟩⟩⟩⟩⟩⟩⟩⟩⟩⟩⟩⟩⟩⟩⟩
theorem lw_p16 : lw_okq (⟨"StageHouse$Parties", "readTerms", "(LStageHouse$Tape;I)V"⟩, 5) := ⟨⟨by decide +kernel, by decide +kernel⟩, List.mem_of_getElem? (i := 439) (by decide +kernel), List.mem_of_getElem? (i := 885) (by decide +kernel), List.mem_of_getElem? (i := 886) (by decide +kernel)⟩
theorem lw_p17 : lw_okq (⟨"StageHouse$Parties", "readTerm", "(LStageHouse$Tape;I)V"⟩, 5) := ⟨⟨by decide +kernel, by decide +kernel⟩, List.mem_of_getElem? (i := 439) (by decide +kernel), List.mem_of_getElem? (i := 889) (by decide +kernel), List.mem_of_getElem? (i := 890) (by decide +kernel)⟩
theorem lw_p18 : lw_okq (⟨"StageHouse", "cueOf", "(III)I"⟩, 9) := ⟨⟨by decide +kernel, by decide +kernel⟩, List.mem_of_getElem? (i := 24) (by decide +kernel), List.mem_of_getElem? (i := 915) (by decide +kernel), List.mem_of_getElem? (i := 916) (by decide +kernel)⟩
theorem lw_p19 : lw_okq (⟨"StageHouse$Board", "begin", "(II)V"⟩, 8) := ⟨⟨by decide +kernel, by decide +kernel⟩, List.mem_of_getElem? (i := 176) (by decide +kernel), List.mem_of_getElem? (i := 944) (by decide +kernel), List.mem_of_getElem? (i := 945) (by decide +kernel)⟩
theorem lw_p20 : lw_okq (⟨"StageHouse$Board", "runAct", "(LStageHouse$Script;II)V"⟩, 8) := ⟨⟨by decide +kernel, by decide +kernel⟩, List.mem_of_getElem? (i := 176) (by decide +kernel), List.mem_of_getElem? (i := 977) (by decide +kernel), List.mem_of_getElem? (i := 978) (by decide +kernel)⟩
theorem lw_p21 : lw_okq (⟨"StageHouse$Rig", "termTrue", "(I)Z"⟩, 5) := ⟨⟨by decide +kernel, by decide +kernel⟩, List.mem_of_getElem? (i := 86) (by decide +kernel), List.mem_of_getElem? (i := 990) (by decide +kernel), List.mem_of_getElem? (i := 991) (by decide +kernel)⟩
theorem lw_p22 : lw_okq (⟨"StageHouse$Axis", "paceFor", "(II)I"⟩, 14) := ⟨⟨by decide +kernel, by decide +kernel⟩, List.mem_of_getElem? (i := 93) (by decide +kernel), List.mem_of_getElem? (i := 1115) (by decide +kernel), List.mem_of_getElem? (i := 1116) (by decide +kernel)⟩
theorem lw_p23 : lw_okq (⟨"StageHouse$Axis", "restsWithin", "(II)Z"⟩, 14) := ⟨⟨by decide +kernel, by decide +kernel⟩, List.mem_of_getElem? (i := 93) (by decide +kernel), List.mem_of_getElem? (i := 1119) (by decide +kernel), List.mem_of_getElem? (i := 1120) (by decide +kernel)⟩
theorem lw_p24 : lw_okq (⟨"StageHouse$Hall", "ownersFor", "(I)I"⟩, 5) := ⟨⟨by decide +kernel, by decide +kernel⟩, List.mem_of_getElem? (i := 330) (by decide +kernel), List.mem_of_getElem? (i := 1167) (by decide +kernel), List.mem_of_getElem? (i := 1168) (by decide +kernel)⟩
theorem lw_p25 : lw_okq (⟨"StageHouse$Hall", "badness", "(III)I"⟩, 5) := ⟨⟨by decide +kernel, by decide +kernel⟩, List.mem_of_getElem? (i := 330) (by decide +kernel), List.mem_of_getElem? (i := 1172) (by decide +kernel), List.mem_of_getElem? (i := 1173) (by decide +kernel)⟩
theorem lw_p26 : lw_okq (⟨"StageHouse$Hall", "isFree", "(II)Z"⟩, 5) := ⟨⟨by decide +kernel, by decide +kernel⟩, List.mem_of_getElem? (i := 330) (by decide +kernel), List.mem_of_getElem? (i := 1176) (by decide +kernel), List.mem_of_getElem? (i := 1177) (by decide +kernel)⟩
theorem lw_p27 : lw_okq (⟨"StageHouse$Parties", "fillRows", "(I)V"⟩, 5) := ⟨⟨by decide +kernel, by decide +kernel⟩, List.mem_of_getElem? (i := 439) (by decide +kernel), List.mem_of_getElem? (i := 1269) (by decide +kernel), List.mem_of_getElem? (i := 1270) (by decide +kernel)⟩
theorem lw_p28 : lw_okq (⟨"StageHouse$Parties", "determinant", "()J"⟩, 5) := ⟨⟨by decide +kernel, by decide +kernel⟩, List.mem_of_getElem? (i := 439) (by decide +kernel), List.mem_of_getElem? (i := 1274) (by decide +kernel), List.mem_of_getElem? (i := 1275) (by decide +kernel)⟩
theorem lw_p29 : lw_okq (⟨"StageHouse$Ways", "note", "(II)V"⟩, 14) := ⟨⟨by decide +kernel, by decide +kernel⟩, List.mem_of_getElem? (i := 462) (by decide +kernel), List.mem_of_getElem? (i := 1295) (by decide +kernel), List.mem_of_getElem? (i := 1296) (by decide +kernel)⟩
theorem lw_p30 : lw_okq (⟨"StageHouse$Ways", "slowest", "()I"⟩, 14) := ⟨⟨by decide +kernel, by decide +kernel⟩, List.mem_of_getElem? (i := 462) (by decide +kernel), List.mem_of_getElem? (i := 1320) (by decide +kernel), List.mem_of_getElem? (i := 1321) (by decide +kernel)⟩
theorem lw_p31 : lw_okq (⟨"StageHouse$Ways", "sendMore", "(I)I"⟩, 14) := ⟨⟨by decide +kernel, by decide +kernel⟩, List.mem_of_getElem? (i := 462) (by decide +kernel), List.mem_of_getElem? (i := 1326) (by decide +kernel), List.mem_of_getElem? (i := 1327) (by decide +kernel)⟩
def lw_privs_2 : List (MethodName × Nat) := [(⟨"StageHouse$Parties", "readTerms", "(LStageHouse$Tape;I)V"⟩, 5), (⟨"StageHouse$Parties", "readTerm", "(LStageHouse$Tape;I)V"⟩, 5), (⟨"StageHouse", "cueOf", "(III)I"⟩, 9), (⟨"StageHouse$Board", "begin", "(II)V"⟩, 8), (⟨"StageHouse$Board", "runAct", "(LStageHouse$Script;II)V"⟩, 8), (⟨"StageHouse$Rig", "termTrue", "(I)Z"⟩, 5), (⟨"StageHouse$Axis", "paceFor", "(II)I"⟩, 14), (⟨"StageHouse$Axis", "restsWithin", "(II)Z"⟩, 14), (⟨"StageHouse$Hall", "ownersFor", "(I)I"⟩, 5), (⟨"StageHouse$Hall", "badness", "(III)I"⟩, 5), (⟨"StageHouse$Hall", "isFree", "(II)Z"⟩, 5), (⟨"StageHouse$Parties", "fillRows", "(I)V"⟩, 5), (⟨"StageHouse$Parties", "determinant", "()J"⟩, 5), (⟨"StageHouse$Ways", "note", "(II)V"⟩, 14), (⟨"StageHouse$Ways", "slowest", "()I"⟩, 14), (⟨"StageHouse$Ways", "sendMore", "(I)I"⟩, 14)]
theorem lw_r2 : ∀ q ∈ lw_privs_2, lw_okq q := List.forall_mem_cons.mpr ⟨lw_p16, List.forall_mem_cons.mpr ⟨lw_p17, List.forall_mem_cons.mpr ⟨lw_p18, List.forall_mem_cons.mpr ⟨lw_p19, List.forall_mem_cons.mpr ⟨lw_p20, List.forall_mem_cons.mpr ⟨lw_p21, List.forall_mem_cons.mpr ⟨lw_p22, List.forall_mem_cons.mpr ⟨lw_p23, List.forall_mem_cons.mpr ⟨lw_p24, List.forall_mem_cons.mpr ⟨lw_p25, List.forall_mem_cons.mpr ⟨lw_p26, List.forall_mem_cons.mpr ⟨lw_p27, List.forall_mem_cons.mpr ⟨lw_p28, List.forall_mem_cons.mpr ⟨lw_p29, List.forall_mem_cons.mpr ⟨lw_p30, List.forall_mem_cons.mpr ⟨lw_p31, fun _ h => absurd h List.not_mem_nil⟩⟩⟩⟩⟩⟩⟩⟩⟩⟩⟩⟩⟩⟩⟩⟩
theorem lw_p32 : lw_okq (⟨"StageHouse$Ways", "layer", "(I)Z"⟩, 14) := ⟨⟨by decide +kernel, by decide +kernel⟩, List.mem_of_getElem? (i := 462) (by decide +kernel), List.mem_of_getElem? (i := 1330) (by decide +kernel), List.mem_of_getElem? (i := 1331) (by decide +kernel)⟩
theorem lw_p33 : lw_okq (⟨"StageHouse$Ways", "endOf", "(III)I"⟩, 14) := ⟨⟨by decide +kernel, by decide +kernel⟩, List.mem_of_getElem? (i := 462) (by decide +kernel), List.mem_of_getElem? (i := 1334) (by decide +kernel), List.mem_of_getElem? (i := 1335) (by decide +kernel)⟩
theorem lw_p34 : lw_okq (⟨"StageHouse$Ways", "sendFrom", "(II)I"⟩, 14) := ⟨⟨by decide +kernel, by decide +kernel⟩, List.mem_of_getElem? (i := 462) (by decide +kernel), List.mem_of_getElem? (i := 1338) (by decide +kernel), List.mem_of_getElem? (i := 1339) (by decide +kernel)⟩
theorem lw_p35 : lw_okq (⟨"StageHouse$Ways", "walk", "(II)I"⟩, 14) := ⟨⟨by decide +kernel, by decide +kernel⟩, List.mem_of_getElem? (i := 462) (by decide +kernel), List.mem_of_getElem? (i := 1342) (by decide +kernel), List.mem_of_getElem? (i := 1343) (by decide +kernel)⟩
theorem lw_p36 : lw_okq (⟨"StageHouse$Ways", "nextBy", "(II)I"⟩, 14) := ⟨⟨by decide +kernel, by decide +kernel⟩, List.mem_of_getElem? (i := 462) (by decide +kernel), List.mem_of_getElem? (i := 1346) (by decide +kernel), List.mem_of_getElem? (i := 1347) (by decide +kernel)⟩
theorem lw_p37 : lw_okq (⟨"StageHouse$Ways", "narrowest", "(II)I"⟩, 14) := ⟨⟨by decide +kernel, by decide +kernel⟩, List.mem_of_getElem? (i := 462) (by decide +kernel), List.mem_of_getElem? (i := 1350) (by decide +kernel), List.mem_of_getElem? (i := 1351) (by decide +kernel)⟩
theorem lw_p38 : lw_okq (⟨"StageHouse$Ways", "roomOf", "(II)I"⟩, 14) := ⟨⟨by decide +kernel, by decide +kernel⟩, List.mem_of_getElem? (i := 462) (by decide +kernel), List.mem_of_getElem? (i := 1354) (by decide +kernel), List.mem_of_getElem? (i := 1355) (by decide +kernel)⟩
theorem lw_p39 : lw_okq (⟨"StageHouse$Ways", "push", "(III)V"⟩, 14) := ⟨⟨by decide +kernel, by decide +kernel⟩, List.mem_of_getElem? (i := 462) (by decide +kernel), List.mem_of_getElem? (i := 1359) (by decide +kernel), List.mem_of_getElem? (i := 1360) (by decide +kernel)⟩
theorem lw_p40 : lw_okq (⟨"StageHouseModel", "fresh", "(I)V"⟩, 127) := ⟨⟨by decide +kernel, by decide +kernel⟩, List.mem_of_getElem? (i := 1363) (by decide +kernel), List.mem_of_getElem? (i := 1369) (by decide +kernel), List.mem_of_getElem? (i := 1370) (by decide +kernel)⟩
theorem lw_p41 : lw_okq (⟨"StageHouseModel", "lay", "(I)V"⟩, 127) := ⟨⟨by decide +kernel, by decide +kernel⟩, List.mem_of_getElem? (i := 1363) (by decide +kernel), List.mem_of_getElem? (i := 1758) (by decide +kernel), List.mem_of_getElem? (i := 1759) (by decide +kernel)⟩
theorem lw_p42 : lw_okq (⟨"StageHouseModel", "read", "()V"⟩, 127) := ⟨⟨by decide +kernel, by decide +kernel⟩, List.mem_of_getElem? (i := 1363) (by decide +kernel), List.mem_of_getElem? (i := 1774) (by decide +kernel), List.mem_of_getElem? (i := 1775) (by decide +kernel)⟩
theorem lw_p43 : lw_okq (⟨"StageHouseModel", "needWord", "(Ljava/lang/String;)V"⟩, 127) := ⟨⟨by decide +kernel, by decide +kernel⟩, List.mem_of_getElem? (i := 1363) (by decide +kernel), List.mem_of_getElem? (i := 1792) (by decide +kernel), List.mem_of_getElem? (i := 1793) (by decide +kernel)⟩
theorem lw_p44 : lw_okq (⟨"StageHouseModel", "takeWord", "(Ljava/lang/String;)Z"⟩, 127) := ⟨⟨by decide +kernel, by decide +kernel⟩, List.mem_of_getElem? (i := 1363) (by decide +kernel), List.mem_of_getElem? (i := 1796) (by decide +kernel), List.mem_of_getElem? (i := 1797) (by decide +kernel)⟩
theorem lw_p45 : lw_okq (⟨"StageHouseModel", "isWord", "(Ljava/lang/String;)Z"⟩, 127) := ⟨⟨by decide +kernel, by decide +kernel⟩, List.mem_of_getElem? (i := 1363) (by decide +kernel), List.mem_of_getElem? (i := 1800) (by decide +kernel), List.mem_of_getElem? (i := 1801) (by decide +kernel)⟩
theorem lw_p46 : lw_okq (⟨"StageHouseModel", "wrong", "()V"⟩, 127) := ⟨⟨by decide +kernel, by decide +kernel⟩, List.mem_of_getElem? (i := 1363) (by decide +kernel), List.mem_of_getElem? (i := 1809) (by decide +kernel), List.mem_of_getElem? (i := 1810) (by decide +kernel)⟩
theorem lw_p47 : lw_okq (⟨"StageHouseModel", "tell", "(II)V"⟩, 127) := ⟨⟨by decide +kernel, by decide +kernel⟩, List.mem_of_getElem? (i := 1363) (by decide +kernel), List.mem_of_getElem? (i := 1813) (by decide +kernel), List.mem_of_getElem? (i := 1814) (by decide +kernel)⟩
def lw_privs_3 : List (MethodName × Nat) := [(⟨"StageHouse$Ways", "layer", "(I)Z"⟩, 14), (⟨"StageHouse$Ways", "endOf", "(III)I"⟩, 14), (⟨"StageHouse$Ways", "sendFrom", "(II)I"⟩, 14), (⟨"StageHouse$Ways", "walk", "(II)I"⟩, 14), (⟨"StageHouse$Ways", "nextBy", "(II)I"⟩, 14), (⟨"StageHouse$Ways", "narrowest", "(II)I"⟩, 14), (⟨"StageHouse$Ways", "roomOf", "(II)I"⟩, 14), (⟨"StageHouse$Ways", "push", "(III)V"⟩, 14), (⟨"StageHouseModel", "fresh", "(I)V"⟩, 127), (⟨"StageHouseModel", "lay", "(I)V"⟩, 127), (⟨"StageHouseModel", "read", "()V"⟩, 127), (⟨"StageHouseModel", "needWord", "(Ljava/lang/String;)V"⟩, 127), (⟨"StageHouseModel", "takeWord", "(Ljava/lang/String;)Z"⟩, 127), (⟨"StageHouseModel", "isWord", "(Ljava/lang/String;)Z"⟩, 127), (⟨"StageHouseModel", "wrong", "()V"⟩, 127), (⟨"StageHouseModel", "tell", "(II)V"⟩, 127)]
theorem lw_r3 : ∀ q ∈ lw_privs_3, lw_okq q := List.forall_mem_cons.mpr ⟨lw_p32, List.forall_mem_cons.mpr ⟨lw_p33, List.forall_mem_cons.mpr ⟨lw_p34, List.forall_mem_cons.mpr ⟨lw_p35, List.forall_mem_cons.mpr ⟨lw_p36, List.forall_mem_cons.mpr ⟨lw_p37, List.forall_mem_cons.mpr ⟨lw_p38, List.forall_mem_cons.mpr ⟨lw_p39, List.forall_mem_cons.mpr ⟨lw_p40, List.forall_mem_cons.mpr ⟨lw_p41, List.forall_mem_cons.mpr ⟨lw_p42, List.forall_mem_cons.mpr ⟨lw_p43, List.forall_mem_cons.mpr ⟨lw_p44, List.forall_mem_cons.mpr ⟨lw_p45, List.forall_mem_cons.mpr ⟨lw_p46, List.forall_mem_cons.mpr ⟨lw_p47, fun _ h => absurd h List.not_mem_nil⟩⟩⟩⟩⟩⟩⟩⟩⟩⟩⟩⟩⟩⟩⟩⟩
theorem lw_p48 : lw_okq (⟨"StageHouseModel", "cue", "(II)I"⟩, 127) := ⟨⟨by decide +kernel, by decide +kernel⟩, List.mem_of_getElem? (i := 1363) (by decide +kernel), List.mem_of_getElem? (i := 1817) (by decide +kernel), List.mem_of_getElem? (i := 1818) (by decide +kernel)⟩
theorem lw_p49 : lw_okq (⟨"StageHouseModel", "name", "()I"⟩, 127) := ⟨⟨by decide +kernel, by decide +kernel⟩, List.mem_of_getElem? (i := 1363) (by decide +kernel), List.mem_of_getElem? (i := 1821) (by decide +kernel), List.mem_of_getElem? (i := 1822) (by decide +kernel)⟩
theorem lw_p50 : lw_okq (⟨"StageHouseModel", "number", "(II)I"⟩, 127) := ⟨⟨by decide +kernel, by decide +kernel⟩, List.mem_of_getElem? (i := 1363) (by decide +kernel), List.mem_of_getElem? (i := 1825) (by decide +kernel), List.mem_of_getElem? (i := 1826) (by decide +kernel)⟩
theorem lw_p51 : lw_okq (⟨"StageHouseModel", "takeSign", "(I)Z"⟩, 127) := ⟨⟨by decide +kernel, by decide +kernel⟩, List.mem_of_getElem? (i := 1363) (by decide +kernel), List.mem_of_getElem? (i := 1829) (by decide +kernel), List.mem_of_getElem? (i := 1830) (by decide +kernel)⟩
theorem lw_p52 : lw_okq (⟨"StageHouseModel", "wasPoint", "()Z"⟩, 127) := ⟨⟨by decide +kernel, by decide +kernel⟩, List.mem_of_getElem? (i := 1363) (by decide +kernel), List.mem_of_getElem? (i := 1833) (by decide +kernel), List.mem_of_getElem? (i := 1834) (by decide +kernel)⟩
theorem lw_p53 : lw_okq (⟨"StageHouseModel", "options", "(I)Z"⟩, 127) := ⟨⟨by decide +kernel, by decide +kernel⟩, List.mem_of_getElem? (i := 1363) (by decide +kernel), List.mem_of_getElem? (i := 1837) (by decide +kernel), List.mem_of_getElem? (i := 1838) (by decide +kernel)⟩
theorem lw_p54 : lw_okq (⟨"StageHouseModel", "needSign", "(I)V"⟩, 127) := ⟨⟨by decide +kernel, by decide +kernel⟩, List.mem_of_getElem? (i := 1363) (by decide +kernel), List.mem_of_getElem? (i := 1847) (by decide +kernel), List.mem_of_getElem? (i := 1848) (by decide +kernel)⟩
theorem lw_p55 : lw_okq (⟨"StageHouseModel", "act", "(I)V"⟩, 127) := ⟨⟨by decide +kernel, by decide +kernel⟩, List.mem_of_getElem? (i := 1363) (by decide +kernel), List.mem_of_getElem? (i := 1851) (by decide +kernel), List.mem_of_getElem? (i := 1852) (by decide +kernel)⟩
theorem lw_p56 : lw_okq (⟨"StageHouseModel", "channels", "()V"⟩, 127) := ⟨⟨by decide +kernel, by decide +kernel⟩, List.mem_of_getElem? (i := 1363) (by decide +kernel), List.mem_of_getElem? (i := 1856) (by decide +kernel), List.mem_of_getElem? (i := 1857) (by decide +kernel)⟩
theorem lw_p57 : lw_okq (⟨"StageHouseModel", "keep", "(I)V"⟩, 127) := ⟨⟨by decide +kernel, by decide +kernel⟩, List.mem_of_getElem? (i := 1363) (by decide +kernel), List.mem_of_getElem? (i := 1868) (by decide +kernel), List.mem_of_getElem? (i := 1869) (by decide +kernel)⟩
theorem lw_p58 : lw_okq (⟨"StageHouseModel", "named", "(III)I"⟩, 127) := ⟨⟨by decide +kernel, by decide +kernel⟩, List.mem_of_getElem? (i := 1363) (by decide +kernel), List.mem_of_getElem? (i := 1876) (by decide +kernel), List.mem_of_getElem? (i := 1877) (by decide +kernel)⟩
theorem lw_p59 : lw_okq (⟨"StageHouseModel", "cueOf", "(II)I"⟩, 127) := ⟨⟨by decide +kernel, by decide +kernel⟩, List.mem_of_getElem? (i := 1363) (by decide +kernel), List.mem_of_getElem? (i := 1883) (by decide +kernel), List.mem_of_getElem? (i := 1884) (by decide +kernel)⟩
theorem lw_p60 : lw_okq (⟨"StageHouseModel", "goes", "(I)Z"⟩, 127) := ⟨⟨by decide +kernel, by decide +kernel⟩, List.mem_of_getElem? (i := 1363) (by decide +kernel), List.mem_of_getElem? (i := 1894) (by decide +kernel), List.mem_of_getElem? (i := 1895) (by decide +kernel)⟩
theorem lw_p61 : lw_okq (⟨"StageHouseModel", "plays", "(III)V"⟩, 127) := ⟨⟨by decide +kernel, by decide +kernel⟩, List.mem_of_getElem? (i := 1363) (by decide +kernel), List.mem_of_getElem? (i := 1898) (by decide +kernel), List.mem_of_getElem? (i := 1899) (by decide +kernel)⟩
theorem lw_p62 : lw_okq (⟨"StageHouseModel", "begins", "(I)V"⟩, 127) := ⟨⟨by decide +kernel, by decide +kernel⟩, List.mem_of_getElem? (i := 1363) (by decide +kernel), List.mem_of_getElem? (i := 1902) (by decide +kernel), List.mem_of_getElem? (i := 1903) (by decide +kernel)⟩
theorem lw_p63 : lw_okq (⟨"StageHouseModel", "goesTo", "(II)Z"⟩, 127) := ⟨⟨by decide +kernel, by decide +kernel⟩, List.mem_of_getElem? (i := 1363) (by decide +kernel), List.mem_of_getElem? (i := 1906) (by decide +kernel), List.mem_of_getElem? (i := 1907) (by decide +kernel)⟩
def lw_privs_4 : List (MethodName × Nat) := [(⟨"StageHouseModel", "cue", "(II)I"⟩, 127), (⟨"StageHouseModel", "name", "()I"⟩, 127), (⟨"StageHouseModel", "number", "(II)I"⟩, 127), (⟨"StageHouseModel", "takeSign", "(I)Z"⟩, 127), (⟨"StageHouseModel", "wasPoint", "()Z"⟩, 127), (⟨"StageHouseModel", "options", "(I)Z"⟩, 127), (⟨"StageHouseModel", "needSign", "(I)V"⟩, 127), (⟨"StageHouseModel", "act", "(I)V"⟩, 127), (⟨"StageHouseModel", "channels", "()V"⟩, 127), (⟨"StageHouseModel", "keep", "(I)V"⟩, 127), (⟨"StageHouseModel", "named", "(III)I"⟩, 127), (⟨"StageHouseModel", "cueOf", "(II)I"⟩, 127), (⟨"StageHouseModel", "goes", "(I)Z"⟩, 127), (⟨"StageHouseModel", "plays", "(III)V"⟩, 127), (⟨"StageHouseModel", "begins", "(I)V"⟩, 127), (⟨"StageHouseModel", "goesTo", "(II)Z"⟩, 127)]
theorem lw_r4 : ∀ q ∈ lw_privs_4, lw_okq q := List.forall_mem_cons.mpr ⟨lw_p48, List.forall_mem_cons.mpr ⟨lw_p49, List.forall_mem_cons.mpr ⟨lw_p50, List.forall_mem_cons.mpr ⟨lw_p51, List.forall_mem_cons.mpr ⟨lw_p52, List.forall_mem_cons.mpr ⟨lw_p53, List.forall_mem_cons.mpr ⟨lw_p54, List.forall_mem_cons.mpr ⟨lw_p55, List.forall_mem_cons.mpr ⟨lw_p56, List.forall_mem_cons.mpr ⟨lw_p57, List.forall_mem_cons.mpr ⟨lw_p58, List.forall_mem_cons.mpr ⟨lw_p59, List.forall_mem_cons.mpr ⟨lw_p60, List.forall_mem_cons.mpr ⟨lw_p61, List.forall_mem_cons.mpr ⟨lw_p62, List.forall_mem_cons.mpr ⟨lw_p63, fun _ h => absurd h List.not_mem_nil⟩⟩⟩⟩⟩⟩⟩⟩⟩⟩⟩⟩⟩⟩⟩⟩
theorem lw_p64 : lw_okq (⟨"StageHouseModel", "isTrue", "(I)Z"⟩, 127) := ⟨⟨by decide +kernel, by decide +kernel⟩, List.mem_of_getElem? (i := 1363) (by decide +kernel), List.mem_of_getElem? (i := 1910) (by decide +kernel), List.mem_of_getElem? (i := 1911) (by decide +kernel)⟩
theorem lw_p65 : lw_okq (⟨"StageHouseModel", "orOf", "()Z"⟩, 127) := ⟨⟨by decide +kernel, by decide +kernel⟩, List.mem_of_getElem? (i := 1363) (by decide +kernel), List.mem_of_getElem? (i := 1914) (by decide +kernel), List.mem_of_getElem? (i := 1915) (by decide +kernel)⟩
theorem lw_p66 : lw_okq (⟨"StageHouseModel", "andOf", "()Z"⟩, 127) := ⟨⟨by decide +kernel, by decide +kernel⟩, List.mem_of_getElem? (i := 1363) (by decide +kernel), List.mem_of_getElem? (i := 1918) (by decide +kernel), List.mem_of_getElem? (i := 1919) (by decide +kernel)⟩
theorem lw_p67 : lw_okq (⟨"StageHouseModel", "notOf", "()Z"⟩, 127) := ⟨⟨by decide +kernel, by decide +kernel⟩, List.mem_of_getElem? (i := 1363) (by decide +kernel), List.mem_of_getElem? (i := 1922) (by decide +kernel), List.mem_of_getElem? (i := 1923) (by decide +kernel)⟩
theorem lw_p68 : lw_okq (⟨"StageHouseModel", "lockNext", "()I"⟩, 127) := ⟨⟨by decide +kernel, by decide +kernel⟩, List.mem_of_getElem? (i := 1363) (by decide +kernel), List.mem_of_getElem? (i := 1926) (by decide +kernel), List.mem_of_getElem? (i := 1927) (by decide +kernel)⟩
theorem lw_p69 : lw_okq (⟨"StageHouseModel", "lockNumber", "()I"⟩, 127) := ⟨⟨by decide +kernel, by decide +kernel⟩, List.mem_of_getElem? (i := 1363) (by decide +kernel), List.mem_of_getElem? (i := 1930) (by decide +kernel), List.mem_of_getElem? (i := 1931) (by decide +kernel)⟩
theorem lw_p70 : lw_okq (⟨"StageHouseModel", "moves", "(I)Z"⟩, 127) := ⟨⟨by decide +kernel, by decide +kernel⟩, List.mem_of_getElem? (i := 1363) (by decide +kernel), List.mem_of_getElem? (i := 1944) (by decide +kernel), List.mem_of_getElem? (i := 1945) (by decide +kernel)⟩
theorem lw_p71 : lw_okq (⟨"StageHouseModel", "orText", "(I)V"⟩, 127) := ⟨⟨by decide +kernel, by decide +kernel⟩, List.mem_of_getElem? (i := 1363) (by decide +kernel), List.mem_of_getElem? (i := 1979) (by decide +kernel), List.mem_of_getElem? (i := 1980) (by decide +kernel)⟩
theorem lw_p72 : lw_okq (⟨"StageHouseModel", "andText", "(I)V"⟩, 127) := ⟨⟨by decide +kernel, by decide +kernel⟩, List.mem_of_getElem? (i := 1363) (by decide +kernel), List.mem_of_getElem? (i := 1983) (by decide +kernel), List.mem_of_getElem? (i := 1984) (by decide +kernel)⟩
theorem lw_p73 : lw_okq (⟨"StageHouseModel", "notText", "(I)V"⟩, 127) := ⟨⟨by decide +kernel, by decide +kernel⟩, List.mem_of_getElem? (i := 1363) (by decide +kernel), List.mem_of_getElem? (i := 1987) (by decide +kernel), List.mem_of_getElem? (i := 1988) (by decide +kernel)⟩
theorem lw_p74 : lw_okq (⟨"StageHouseModel", "oneTick", "()V"⟩, 127) := ⟨⟨by decide +kernel, by decide +kernel⟩, List.mem_of_getElem? (i := 1363) (by decide +kernel), List.mem_of_getElem? (i := 2022) (by decide +kernel), List.mem_of_getElem? (i := 2023) (by decide +kernel)⟩
theorem lw_p75 : lw_okq (⟨"StageHouseModel", "moveAxis", "(I)V"⟩, 127) := ⟨⟨by decide +kernel, by decide +kernel⟩, List.mem_of_getElem? (i := 1363) (by decide +kernel), List.mem_of_getElem? (i := 2026) (by decide +kernel), List.mem_of_getElem? (i := 2027) (by decide +kernel)⟩
theorem lw_p76 : lw_okq (⟨"StageHouseModel", "frees", "(I)V"⟩, 127) := ⟨⟨by decide +kernel, by decide +kernel⟩, List.mem_of_getElem? (i := 1363) (by decide +kernel), List.mem_of_getElem? (i := 2033) (by decide +kernel), List.mem_of_getElem? (i := 2034) (by decide +kernel)⟩
theorem lw_p77 : lw_okq (⟨"StageHouseModel", "mark", "(IIII)V"⟩, 127) := ⟨⟨by decide +kernel, by decide +kernel⟩, List.mem_of_getElem? (i := 1363) (by decide +kernel), List.mem_of_getElem? (i := 2037) (by decide +kernel), List.mem_of_getElem? (i := 2038) (by decide +kernel)⟩
theorem lw_p78 : lw_okq (⟨"StageHouseModel", "isFree", "(II)Z"⟩, 127) := ⟨⟨by decide +kernel, by decide +kernel⟩, List.mem_of_getElem? (i := 1363) (by decide +kernel), List.mem_of_getElem? (i := 2065) (by decide +kernel), List.mem_of_getElem? (i := 2066) (by decide +kernel)⟩
theorem lw_p79 : lw_okq (⟨"StageHouseModel", "mayTake", "(III)Z"⟩, 127) := ⟨⟨by decide +kernel, by decide +kernel⟩, List.mem_of_getElem? (i := 1363) (by decide +kernel), List.mem_of_getElem? (i := 2069) (by decide +kernel), List.mem_of_getElem? (i := 2070) (by decide +kernel)⟩
def lw_privs_5 : List (MethodName × Nat) := [(⟨"StageHouseModel", "isTrue", "(I)Z"⟩, 127), (⟨"StageHouseModel", "orOf", "()Z"⟩, 127), (⟨"StageHouseModel", "andOf", "()Z"⟩, 127), (⟨"StageHouseModel", "notOf", "()Z"⟩, 127), (⟨"StageHouseModel", "lockNext", "()I"⟩, 127), (⟨"StageHouseModel", "lockNumber", "()I"⟩, 127), (⟨"StageHouseModel", "moves", "(I)Z"⟩, 127), (⟨"StageHouseModel", "orText", "(I)V"⟩, 127), (⟨"StageHouseModel", "andText", "(I)V"⟩, 127), (⟨"StageHouseModel", "notText", "(I)V"⟩, 127), (⟨"StageHouseModel", "oneTick", "()V"⟩, 127), (⟨"StageHouseModel", "moveAxis", "(I)V"⟩, 127), (⟨"StageHouseModel", "frees", "(I)V"⟩, 127), (⟨"StageHouseModel", "mark", "(IIII)V"⟩, 127), (⟨"StageHouseModel", "isFree", "(II)Z"⟩, 127), (⟨"StageHouseModel", "mayTake", "(III)Z"⟩, 127)]
theorem lw_r5 : ∀ q ∈ lw_privs_5, lw_okq q := List.forall_mem_cons.mpr ⟨lw_p64, List.forall_mem_cons.mpr ⟨lw_p65, List.forall_mem_cons.mpr ⟨lw_p66, List.forall_mem_cons.mpr ⟨lw_p67, List.forall_mem_cons.mpr ⟨lw_p68, List.forall_mem_cons.mpr ⟨lw_p69, List.forall_mem_cons.mpr ⟨lw_p70, List.forall_mem_cons.mpr ⟨lw_p71, List.forall_mem_cons.mpr ⟨lw_p72, List.forall_mem_cons.mpr ⟨lw_p73, List.forall_mem_cons.mpr ⟨lw_p74, List.forall_mem_cons.mpr ⟨lw_p75, List.forall_mem_cons.mpr ⟨lw_p76, List.forall_mem_cons.mpr ⟨lw_p77, List.forall_mem_cons.mpr ⟨lw_p78, List.forall_mem_cons.mpr ⟨lw_p79, fun _ h => absurd h List.not_mem_nil⟩⟩⟩⟩⟩⟩⟩⟩⟩⟩⟩⟩⟩⟩⟩⟩
theorem lw_p80 : lw_okq (⟨"StageHouseModel", "isHold", "(I)Z"⟩, 127) := ⟨⟨by decide +kernel, by decide +kernel⟩, List.mem_of_getElem? (i := 1363) (by decide +kernel), List.mem_of_getElem? (i := 2077) (by decide +kernel), List.mem_of_getElem? (i := 2078) (by decide +kernel)⟩
theorem lw_p81 : lw_okq (⟨"StageHouseModel", "priceOfHold", "(I)I"⟩, 127) := ⟨⟨by decide +kernel, by decide +kernel⟩, List.mem_of_getElem? (i := 1363) (by decide +kernel), List.mem_of_getElem? (i := 2081) (by decide +kernel), List.mem_of_getElem? (i := 2082) (by decide +kernel)⟩
theorem lw_p82 : lw_okq (⟨"StageHouseModel", "priceOf", "(IIII)J"⟩, 127) := ⟨⟨by decide +kernel, by decide +kernel⟩, List.mem_of_getElem? (i := 1363) (by decide +kernel), List.mem_of_getElem? (i := 2085) (by decide +kernel), List.mem_of_getElem? (i := 2086) (by decide +kernel)⟩
theorem lw_p83 : lw_okq (⟨"StageHouseModel", "isTicket", "(I)Z"⟩, 127) := ⟨⟨by decide +kernel, by decide +kernel⟩, List.mem_of_getElem? (i := 1363) (by decide +kernel), List.mem_of_getElem? (i := 2106) (by decide +kernel), List.mem_of_getElem? (i := 2107) (by decide +kernel)⟩
theorem lw_p84 : lw_okq (⟨"StageHouseModel", "term", "(I)V"⟩, 127) := ⟨⟨by decide +kernel, by decide +kernel⟩, List.mem_of_getElem? (i := 1363) (by decide +kernel), List.mem_of_getElem? (i := 2126) (by decide +kernel), List.mem_of_getElem? (i := 2127) (by decide +kernel)⟩
theorem lw_p85 : lw_okq (⟨"StageHouseModel", "edge", "(III)V"⟩, 127) := ⟨⟨by decide +kernel, by decide +kernel⟩, List.mem_of_getElem? (i := 1363) (by decide +kernel), List.mem_of_getElem? (i := 2159) (by decide +kernel), List.mem_of_getElem? (i := 2160) (by decide +kernel)⟩
theorem lw_p86 : lw_okq (⟨"StageHouseModel", "out2", "(I)I"⟩, 127) := ⟨⟨by decide +kernel, by decide +kernel⟩, List.mem_of_getElem? (i := 1363) (by decide +kernel), List.mem_of_getElem? (i := 2163) (by decide +kernel), List.mem_of_getElem? (i := 2164) (by decide +kernel)⟩
def lw_privs_6 : List (MethodName × Nat) := [(⟨"StageHouseModel", "isHold", "(I)Z"⟩, 127), (⟨"StageHouseModel", "priceOfHold", "(I)I"⟩, 127), (⟨"StageHouseModel", "priceOf", "(IIII)J"⟩, 127), (⟨"StageHouseModel", "isTicket", "(I)Z"⟩, 127), (⟨"StageHouseModel", "term", "(I)V"⟩, 127), (⟨"StageHouseModel", "edge", "(III)V"⟩, 127), (⟨"StageHouseModel", "out2", "(I)I"⟩, 127)]
theorem lw_r6 : ∀ q ∈ lw_privs_6, lw_okq q := List.forall_mem_cons.mpr ⟨lw_p80, List.forall_mem_cons.mpr ⟨lw_p81, List.forall_mem_cons.mpr ⟨lw_p82, List.forall_mem_cons.mpr ⟨lw_p83, List.forall_mem_cons.mpr ⟨lw_p84, List.forall_mem_cons.mpr ⟨lw_p85, List.forall_mem_cons.mpr ⟨lw_p86, fun _ h => absurd h List.not_mem_nil⟩⟩⟩⟩⟩⟩⟩
def lw_privs : List (MethodName × Nat) := lw_privs_1 ++ (lw_privs_2 ++ (lw_privs_3 ++ (lw_privs_4 ++ (lw_privs_5 ++ (lw_privs_6)))))
def lw_tbl : List Cond := k2_sels lw_privs ++ tables_1
theorem lw_privs_ok : ∀ q ∈ lw_privs, lw_okq q := by
  show ∀ q ∈ lw_privs_1 ++ (lw_privs_2 ++ (lw_privs_3 ++ (lw_privs_4 ++ (lw_privs_5 ++ (lw_privs_6))))), lw_okq q
  exact List.forall_mem_append.mpr ⟨lw_r1, List.forall_mem_append.mpr ⟨lw_r2, List.forall_mem_append.mpr ⟨lw_r3, List.forall_mem_append.mpr ⟨lw_r4, List.forall_mem_append.mpr ⟨lw_r5, lw_r6⟩⟩⟩⟩⟩

def RX0 : String := "StageHouse$Axis"
def TX0 : u_T := fun k => match k with
  | 0 => ("StageHouse$Axis", "there", "Z", false)
  | 1 => ("StageHouse$Axis", "low", "I", false)
  | 2 => ("StageHouse$Axis", "high", "I", false)
  | 3 => ("StageHouse$Axis", "speed", "I", false)
  | 4 => ("StageHouse$Axis", "acc", "I", false)
  | 5 => ("StageHouse$Axis", "at", "I", false)
  | 6 => ("StageHouse$Axis", "pace", "I", false)
  | 7 => ("StageHouse$Axis", "target", "I", false)
  | 8 => ("StageHouse$Axis", "seen", "I", false)
  | 9 => ("StageHouse$Axis", "seenBefore", "I", false)
  | 10 => ("StageHouse$Axis", "failed", "I", false)
  | 11 => ("StageHouse$Axis", "refused", "I", false)
  | 12 => ("StageHouse$Axis", "codes", "[I", false)
  | _ => ("StageHouse$Axis", "codeCount", "I", false)
def tyX0 : Nat → FieldType := fun k => match k with
  | 0 => .boolean
  | 1 => .int
  | 2 => .int
  | 3 => .int
  | 4 => .int
  | 5 => .int
  | 6 => .int
  | 7 => .int
  | 8 => .int
  | 9 => .int
  | 10 => .int
  | 11 => .int
  | 12 => .array .int
  | _ => .int
theorem nmX0 : ∀ a, a < 14 → ∀ b, b < 14 → a ≠ b → (TX0 a).2.1 ≠ (TX0 b).2.1 := by decide +kernel
theorem tyX0_ok : ∀ k, k < 14 → parseFieldDescriptor (TX0 k).2.2.1 = some (tyX0 k) := by decide +kernel
abbrev cX0_init : ByteArray := prog_2_method_1_code
def yX0_init : MethodName := ⟨RX0, "<init>", "()V"⟩
abbrev cX0_place : ByteArray := prog_2_method_2_code
def yX0_place : MethodName := ⟨RX0, "place", "(IIII)V"⟩
abbrev cX0_fail : ByteArray := prog_2_method_3_code
def yX0_fail : MethodName := ⟨RX0, "fail", "(I)V"⟩
abbrev cX0_tell : ByteArray := prog_2_method_4_code
def yX0_tell : MethodName := ⟨RX0, "tell", "(I)I"⟩
abbrev cX0_move : ByteArray := prog_2_method_5_code
def yX0_move : MethodName := ⟨RX0, "move", "()V"⟩
abbrev cX0_paceFor : ByteArray := prog_2_method_6_code
def yX0_paceFor : MethodName := ⟨RX0, "paceFor", "(II)I"⟩
abbrev cX0_restsWithin : ByteArray := prog_2_method_7_code
def yX0_restsWithin : MethodName := ⟨RX0, "restsWithin", "(II)Z"⟩
abbrev cX0_look : ByteArray := prog_2_method_8_code
def yX0_look : MethodName := ⟨RX0, "look", "()V"⟩
def RX1 : String := "StageHouse$Board"
def TX1 : u_T := fun k => match k with
  | 0 => ("StageHouse$Board", "players", "[LStageHouse$CueList;", true)
  | 1 => ("StageHouse$Board", "owners", "[I", true)
  | 2 => ("StageHouse$Board", "goals", "[I", true)
  | 3 => ("StageHouse$Board", "channels", "[I", true)
  | 4 => ("StageHouse$Board", "curves", "[I", true)
  | 5 => ("StageHouse$Board", "rig", "LStageHouse$Rig;", true)
  | 6 => ("StageHouse$Board", "spare", "LStageHouse$Script;", false)
  | _ => ("StageHouse$Board", "grand", "I", false)
def tyX1 : Nat → FieldType := fun k => match k with
  | 0 => .array (.object "StageHouse$CueList")
  | 1 => .array .int
  | 2 => .array .int
  | 3 => .array .int
  | 4 => .array .int
  | 5 => .object "StageHouse$Rig"
  | 6 => .object "StageHouse$Script"
  | _ => .int
theorem nmX1 : ∀ a, a < 8 → ∀ b, b < 8 → a ≠ b → (TX1 a).2.1 ≠ (TX1 b).2.1 := by decide +kernel
theorem tyX1_ok : ∀ k, k < 8 → parseFieldDescriptor (TX1 k).2.2.1 = some (tyX1 k) := by decide +kernel
abbrev cX1_init : ByteArray := prog_3_method_1_code
def yX1_init : MethodName := ⟨RX1, "<init>", "(LStageHouse$Rig;)V"⟩
abbrev cX1_adopt : ByteArray := prog_3_method_2_code
def yX1_adopt : MethodName := ⟨RX1, "adopt", "(I)V"⟩
abbrev cX1_start : ByteArray := prog_3_method_3_code
def yX1_start : MethodName := ⟨RX1, "start", "(III)V"⟩
abbrev cX1_step : ByteArray := prog_3_method_4_code
def yX1_step : MethodName := ⟨RX1, "step", "(II)V"⟩
abbrev cX1_begin : ByteArray := prog_3_method_5_code
def yX1_begin : MethodName := ⟨RX1, "begin", "(II)V"⟩
abbrev cX1_runAct : ByteArray := prog_3_method_6_code
def yX1_runAct : MethodName := ⟨RX1, "runAct", "(LStageHouse$Script;II)V"⟩
abbrev cX1_callCue : ByteArray := prog_3_method_7_code
def yX1_callCue : MethodName := ⟨RX1, "callCue", "(LStageHouse$CueList;II)V"⟩
abbrev cX1_mixed : ByteArray := prog_3_method_8_code
def yX1_mixed : MethodName := ⟨RX1, "mixed", "(II)I"⟩
abbrev cX1_sent : ByteArray := prog_3_method_9_code
def yX1_sent : MethodName := ⟨RX1, "sent", "(II)I"⟩
abbrev cX1_scaled : ByteArray := prog_3_method_10_code
def yX1_scaled : MethodName := ⟨RX1, "scaled", "(II)I"⟩
def RX2 : String := "StageHouse$Box"
def TX2 : u_T := fun k => match k with
  | 0 => ("StageHouse$Box", "hall", "LStageHouse$Hall;", true)
  | 1 => ("StageHouse$Box", "prices", "LStageHouse$Prices;", true)
  | 2 => ("StageHouse$Box", "spots", "[I", true)
  | 3 => ("StageHouse$Box", "sizes", "[I", true)
  | 4 => ("StageHouse$Box", "kinds", "[I", true)
  | 5 => ("StageHouse$Box", "days", "[I", true)
  | 6 => ("StageHouse$Box", "ends", "[I", true)
  | 7 => ("StageHouse$Box", "soldSpots", "[I", true)
  | 8 => ("StageHouse$Box", "soldSizes", "[I", true)
  | 9 => ("StageHouse$Box", "paid", "[I", true)
  | 10 => ("StageHouse$Box", "marks", "[I", true)
  | 11 => ("StageHouse$Box", "holds", "I", false)
  | 12 => ("StageHouse$Box", "tickets", "I", false)
  | 13 => ("StageHouse$Box", "returned", "I", false)
  | 14 => ("StageHouse$Box", "taken", "I", false)
  | 15 => ("StageHouse$Box", "sold", "I", false)
  | _ => ("StageHouse$Box", "entered", "I", false)
def tyX2 : Nat → FieldType := fun k => match k with
  | 0 => .object "StageHouse$Hall"
  | 1 => .object "StageHouse$Prices"
  | 2 => .array .int
  | 3 => .array .int
  | 4 => .array .int
  | 5 => .array .int
  | 6 => .array .int
  | 7 => .array .int
  | 8 => .array .int
  | 9 => .array .int
  | 10 => .array .int
  | 11 => .int
  | 12 => .int
  | 13 => .int
  | 14 => .int
  | 15 => .int
  | _ => .int
theorem nmX2 : ∀ a, a < 17 → ∀ b, b < 17 → a ≠ b → (TX2 a).2.1 ≠ (TX2 b).2.1 := by decide +kernel
theorem tyX2_ok : ∀ k, k < 17 → parseFieldDescriptor (TX2 k).2.2.1 = some (tyX2 k) := by decide +kernel
abbrev cX2_init : ByteArray := prog_4_method_1_code
def yX2_init : MethodName := ⟨RX2, "<init>", "(LStageHouse$Hall;LStageHouse$Prices;)V"⟩
abbrev cX2_hasHold : ByteArray := prog_4_method_2_code
def yX2_hasHold : MethodName := ⟨RX2, "hasHold", "(I)Z"⟩
abbrev cX2_freeHold : ByteArray := prog_4_method_3_code
def yX2_freeHold : MethodName := ⟨RX2, "freeHold", "()I"⟩
abbrev cX2_keep : ByteArray := prog_4_method_4_code
def yX2_keep : MethodName := ⟨RX2, "keep", "(III)V"⟩
abbrev cX2_describe : ByteArray := prog_4_method_5_code
def yX2_describe : MethodName := ⟨RX2, "describe", "(IIII)V"⟩
abbrev cX2_drop : ByteArray := prog_4_method_6_code
def yX2_drop : MethodName := ⟨RX2, "drop", "(I)V"⟩
abbrev cX2_expire : ByteArray := prog_4_method_7_code
def yX2_expire : MethodName := ⟨RX2, "expire", "(I)V"⟩
abbrev cX2_price : ByteArray := prog_4_method_8_code
def yX2_price : MethodName := ⟨RX2, "price", "(I)I"⟩
abbrev cX2_tellHold : ByteArray := prog_4_method_9_code
def yX2_tellHold : MethodName := ⟨RX2, "tellHold", "(II)I"⟩
abbrev cX2_sell : ByteArray := prog_4_method_10_code
def yX2_sell : MethodName := ⟨RX2, "sell", "(II)I"⟩
abbrev cX2_isOpen : ByteArray := prog_4_method_11_code
def yX2_isOpen : MethodName := ⟨RX2, "isOpen", "(I)Z"⟩
abbrev cX2_refund : ByteArray := prog_4_method_12_code
def yX2_refund : MethodName := ⟨RX2, "refund", "(I)I"⟩
abbrev cX2_letIn : ByteArray := prog_4_method_13_code
def y_at (c : Option Cond) : MethodName := match c with
  | some (.instanceMethod y) => y
  | _ => ⟨"", "", ""⟩
def yX2_letIn : MethodName := ⟨RX2, (y_at tables_1[1244]?).name, "(I)I"⟩
def RX3 : String := "StageHouse$CueList"
def TX3 : u_T := fun k => match k with
  | 0 => ("StageHouse$CueList", "script", "LStageHouse$Script;", false)
  | 1 => ("StageHouse$CueList", "targets", "[I", true)
  | 2 => ("StageHouse$CueList", "starts", "[I", true)
  | 3 => ("StageHouse$CueList", "since", "[I", true)
  | 4 => ("StageHouse$CueList", "spans", "[I", true)
  | 5 => ("StageHouse$CueList", "cue", "I", false)
  | 6 => ("StageHouse$CueList", "waiting", "Z", false)
  | 7 => ("StageHouse$CueList", "beginAt", "I", false)
  | 8 => ("StageHouse$CueList", "followAt", "I", false)
  | _ => ("StageHouse$CueList", "master", "I", false)
def tyX3 : Nat → FieldType := fun k => match k with
  | 0 => .object "StageHouse$Script"
  | 1 => .array .int
  | 2 => .array .int
  | 3 => .array .int
  | 4 => .array .int
  | 5 => .int
  | 6 => .boolean
  | 7 => .int
  | 8 => .int
  | _ => .int
theorem nmX3 : ∀ a, a < 10 → ∀ b, b < 10 → a ≠ b → (TX3 a).2.1 ≠ (TX3 b).2.1 := by decide +kernel
theorem tyX3_ok : ∀ k, k < 10 → parseFieldDescriptor (TX3 k).2.2.1 = some (tyX3 k) := by decide +kernel
abbrev cX3_init : ByteArray := prog_5_method_1_code
def yX3_init : MethodName := ⟨RX3, "<init>", "()V"⟩
abbrev cX3_reset : ByteArray := prog_5_method_2_code
def yX3_reset : MethodName := ⟨RX3, "reset", "()V"⟩
abbrev cX3_ownName : ByteArray := prog_5_method_3_code
def yX3_ownName : MethodName := ⟨RX3, "ownName", "()I"⟩
abbrev cX3_following : ByteArray := prog_5_method_4_code
def yX3_following : MethodName := ⟨RX3, "following", "()I"⟩
abbrev cX3_arm : ByteArray := prog_5_method_5_code
def yX3_arm : MethodName := ⟨RX3, "arm", "(II)V"⟩
abbrev cX3_fade : ByteArray := prog_5_method_6_code
def yX3_fade : MethodName := ⟨RX3, "fade", "(III)V"⟩
abbrev cX3_levelAt : ByteArray := prog_5_method_7_code
def yX3_levelAt : MethodName := ⟨RX3, "levelAt", "(II)I"⟩
abbrev cX3_moving : ByteArray := prog_5_method_8_code
def yX3_moving : MethodName := ⟨RX3, "moving", "(I)I"⟩
def RX4 : String := "StageHouse$Hall"
def TX4 : u_T := fun k => match k with
  | 0 => ("StageHouse$Hall", "prices", "[I", true)
  | 1 => ("StageHouse$Hall", "sections", "[I", true)
  | 2 => ("StageHouse$Hall", "seats", "[I", true)
  | 3 => ("StageHouse$Hall", "states", "[I", true)
  | _ => ("StageHouse$Hall", "isCut", "[Z", true)
def tyX4 : Nat → FieldType := fun k => match k with
  | 0 => .array .int
  | 1 => .array .int
  | 2 => .array .int
  | 3 => .array .int
  | _ => .array .boolean
theorem nmX4 : ∀ a, a < 5 → ∀ b, b < 5 → a ≠ b → (TX4 a).2.1 ≠ (TX4 b).2.1 := by decide +kernel
theorem tyX4_ok : ∀ k, k < 5 → parseFieldDescriptor (TX4 k).2.2.1 = some (tyX4 k) := by decide +kernel
abbrev cX4_init : ByteArray := prog_6_method_1_code
def yX4_init : MethodName := ⟨RX4, "<init>", "()V"⟩
abbrev cX4_build : ByteArray := prog_6_method_2_code
def yX4_build : MethodName := ⟨RX4, "build", "(III)Z"⟩
abbrev cX4_mark : ByteArray := prog_6_method_3_code
def yX4_mark : MethodName := ⟨RX4, "mark", "(III)V"⟩
abbrev cX4_best : ByteArray := prog_6_method_4_code
def yX4_best : MethodName := ⟨RX4, "best", "(III)I"⟩
abbrev cX4_ownersFor : ByteArray := prog_6_method_5_code
def yX4_ownersFor : MethodName := ⟨RX4, "ownersFor", "(I)I"⟩
abbrev cX4_badness : ByteArray := prog_6_method_6_code
def yX4_badness : MethodName := ⟨RX4, "badness", "(III)I"⟩
abbrev cX4_isFree : ByteArray := prog_6_method_7_code
def yX4_isFree : MethodName := ⟨RX4, "isFree", "(II)Z"⟩
def RX5 : String := "StageHouse$Parties"
def TX5 : u_T := fun k => match k with
  | 0 => ("StageHouse$Parties", "told", "[I", false)
  | 1 => ("StageHouse$Parties", "spare", "[I", false)
  | 2 => ("StageHouse$Parties", "named", "I", false)
  | 3 => ("StageHouse$Parties", "rows", "[J", true)
  | _ => ("StageHouse$Parties", "sides", "[J", true)
def tyX5 : Nat → FieldType := fun k => match k with
  | 0 => .array .int
  | 1 => .array .int
  | 2 => .int
  | 3 => .array .long
  | _ => .array .long
theorem nmX5 : ∀ a, a < 5 → ∀ b, b < 5 → a ≠ b → (TX5 a).2.1 ≠ (TX5 b).2.1 := by decide +kernel
theorem tyX5_ok : ∀ k, k < 5 → parseFieldDescriptor (TX5 k).2.2.1 = some (tyX5 k) := by decide +kernel
abbrev cX5_init : ByteArray := prog_7_method_1_code
def yX5_init : MethodName := ⟨RX5, "<init>", "()V"⟩
abbrev cX5_read : ByteArray := prog_7_method_2_code
def yX5_read : MethodName := ⟨RX5, "read", "(LStageHouse$Tape;)V"⟩
abbrev cX5_readTerms : ByteArray := prog_7_method_3_code
def yX5_readTerms : MethodName := ⟨RX5, "readTerms", "(LStageHouse$Tape;I)V"⟩
abbrev cX5_readTerm : ByteArray := prog_7_method_4_code
def yX5_readTerm : MethodName := ⟨RX5, "readTerm", "(LStageHouse$Tape;I)V"⟩
abbrev cX5_tell : ByteArray := prog_7_method_5_code
def yX5_tell : MethodName := ⟨RX5, "tell", "(III)J"⟩
abbrev cX5_fillRows : ByteArray := prog_7_method_6_code
def yX5_fillRows : MethodName := ⟨RX5, "fillRows", "(I)V"⟩
abbrev cX5_determinant : ByteArray := prog_7_method_7_code
def yX5_determinant : MethodName := ⟨RX5, "determinant", "()J"⟩
abbrev cX5_commonOf : ByteArray := prog_7_method_8_code
def yX5_commonOf : MethodName := ⟨RX5, "commonOf", "(JJ)J"⟩
def RX6 : String := "StageHouse$Prices"
def TX6 : u_T := fun k => match k with
  | 0 => ("StageHouse$Prices", "told", "[I", false)
  | 1 => ("StageHouse$Prices", "spare", "[I", false)
  | _ => ("StageHouse$Prices", "count", "I", false)
def tyX6 : Nat → FieldType := fun k => match k with
  | 0 => .array .int
  | 1 => .array .int
  | _ => .int
theorem nmX6 : ∀ a, a < 3 → ∀ b, b < 3 → a ≠ b → (TX6 a).2.1 ≠ (TX6 b).2.1 := by decide +kernel
theorem tyX6_ok : ∀ k, k < 3 → parseFieldDescriptor (TX6 k).2.2.1 = some (tyX6 k) := by decide +kernel
abbrev cX6_init : ByteArray := prog_8_method_1_code
def yX6_init : MethodName := ⟨RX6, "<init>", "()V"⟩
abbrev cX6_read : ByteArray := prog_8_method_2_code
def yX6_read : MethodName := ⟨RX6, "read", "(LStageHouse$Tape;)V"⟩
abbrev cX6_conditionAt : ByteArray := prog_8_method_3_code
def yX6_conditionAt : MethodName := ⟨RX6, "conditionAt", "(LStageHouse$Tape;)I"⟩
abbrev cX6_readRule : ByteArray := prog_8_method_4_code
def yX6_readRule : MethodName := ⟨RX6, "readRule", "(LStageHouse$Tape;I)V"⟩
abbrev cX6_readCondition : ByteArray := prog_8_method_5_code
def yX6_readCondition : MethodName := ⟨RX6, "readCondition", "(LStageHouse$Tape;I)V"⟩
abbrev cX6_readChange : ByteArray := prog_8_method_6_code
def yX6_readChange : MethodName := ⟨RX6, "readChange", "(LStageHouse$Tape;I)V"⟩
abbrev cX6_priceOf : ByteArray := prog_8_method_7_code
def yX6_priceOf : MethodName := ⟨RX6, "priceOf", "(IIIII)I"⟩
abbrev cX6_changed : ByteArray := prog_8_method_8_code
def yX6_changed : MethodName := ⟨RX6, "changed", "(IIII)I"⟩
def RX7 : String := "StageHouse$Rig"
def TX7 : u_T := fun k => match k with
  | 0 => ("StageHouse$Rig", "axes", "[LStageHouse$Axis;", true)
  | 1 => ("StageHouse$Rig", "events", "[Z", true)
  | 2 => ("StageHouse$Rig", "stopped", "Z", false)
  | 3 => ("StageHouse$Rig", "scratch", "[I", false)
  | _ => ("StageHouse$Rig", "size", "I", false)
def tyX7 : Nat → FieldType := fun k => match k with
  | 0 => .array (.object "StageHouse$Axis")
  | 1 => .array .boolean
  | 2 => .boolean
  | 3 => .array .int
  | _ => .int
theorem nmX7 : ∀ a, a < 5 → ∀ b, b < 5 → a ≠ b → (TX7 a).2.1 ≠ (TX7 b).2.1 := by decide +kernel
theorem tyX7_ok : ∀ k, k < 5 → parseFieldDescriptor (TX7 k).2.2.1 = some (tyX7 k) := by decide +kernel
abbrev cX7_init : ByteArray := prog_9_method_1_code
def yX7_init : MethodName := ⟨RX7, "<init>", "()V"⟩
abbrev cX7_halt : ByteArray := prog_9_method_2_code
def yX7_halt : MethodName := ⟨RX7, "halt", "(Z)V"⟩
abbrev cX7_send : ByteArray := prog_9_method_3_code
def yX7_send : MethodName := ⟨RX7, "send", "(II)Z"⟩
abbrev cX7_refusals : ByteArray := prog_9_method_4_code
def yX7_refusals : MethodName := ⟨RX7, "refusals", "()I"⟩
abbrev cX7_step : ByteArray := prog_9_method_5_code
def yX7_step : MethodName := ⟨RX7, "step", "()V"⟩
abbrev cX7_lockTrue : ByteArray := prog_9_method_6_code
def yX7_lockTrue : MethodName := ⟨RX7, "lockTrue", "(I)Z"⟩
abbrev cX7_termTrue : ByteArray := prog_9_method_7_code
def yX7_termTrue : MethodName := ⟨RX7, "termTrue", "(I)Z"⟩
abbrev cX7_readLock : ByteArray := prog_9_method_8_code
def yX7_readLock : MethodName := ⟨RX7, "readLock", "(LStageHouse$Tape;I)V"⟩
abbrev cX7_readOr : ByteArray := prog_9_method_9_code
def yX7_readOr : MethodName := ⟨RX7, "readOr", "(LStageHouse$Tape;I)V"⟩
abbrev cX7_readNot : ByteArray := prog_9_method_10_code
def yX7_readNot : MethodName := ⟨RX7, "readNot", "(LStageHouse$Tape;I)V"⟩
abbrev cX7_readTerm : ByteArray := prog_9_method_11_code
def yX7_readTerm : MethodName := ⟨RX7, "readTerm", "(LStageHouse$Tape;)V"⟩
abbrev cX7_emit : ByteArray := prog_9_method_12_code
def yX7_emit : MethodName := ⟨RX7, "emit", "(III)V"⟩
def RX8 : String := "StageHouse$Script"
def TX8 : u_T := fun k => match k with
  | 0 => ("StageHouse$Script", "names", "[I", true)
  | 1 => ("StageHouse$Script", "ups", "[I", true)
  | 2 => ("StageHouse$Script", "downs", "[I", true)
  | 3 => ("StageHouse$Script", "waits", "[I", true)
  | 4 => ("StageHouse$Script", "follows", "[I", true)
  | 5 => ("StageHouse$Script", "links", "[I", true)
  | 6 => ("StageHouse$Script", "bases", "[I", true)
  | 7 => ("StageHouse$Script", "firsts", "[I", true)
  | 8 => ("StageHouse$Script", "kinds", "[I", true)
  | 9 => ("StageHouse$Script", "whose", "[I", true)
  | 10 => ("StageHouse$Script", "values", "[I", true)
  | 11 => ("StageHouse$Script", "masks", "[J", true)
  | 12 => ("StageHouse$Script", "count", "I", false)
  | _ => ("StageHouse$Script", "acts", "I", false)
def tyX8 : Nat → FieldType := fun k => match k with
  | 0 => .array .int
  | 1 => .array .int
  | 2 => .array .int
  | 3 => .array .int
  | 4 => .array .int
  | 5 => .array .int
  | 6 => .array .int
  | 7 => .array .int
  | 8 => .array .int
  | 9 => .array .int
  | 10 => .array .int
  | 11 => .array .long
  | 12 => .int
  | _ => .int
theorem nmX8 : ∀ a, a < 14 → ∀ b, b < 14 → a ≠ b → (TX8 a).2.1 ≠ (TX8 b).2.1 := by decide +kernel
theorem tyX8_ok : ∀ k, k < 14 → parseFieldDescriptor (TX8 k).2.2.1 = some (tyX8 k) := by decide +kernel
abbrev cX8_init : ByteArray := prog_10_method_1_code
def yX8_init : MethodName := ⟨RX8, "<init>", "()V"⟩
abbrev cX8_read : ByteArray := prog_10_method_2_code
def yX8_read : MethodName := ⟨RX8, "read", "(LStageHouse$Tape;)V"⟩
abbrev cX8_readHead : ByteArray := prog_10_method_3_code
def yX8_readHead : MethodName := ⟨RX8, "readHead", "(LStageHouse$Tape;)V"⟩
abbrev cX8_readName : ByteArray := prog_10_method_4_code
def yX8_readName : MethodName := ⟨RX8, "readName", "(LStageHouse$Tape;)I"⟩
abbrev cX8_readOptions : ByteArray := prog_10_method_5_code
def yX8_readOptions : MethodName := ⟨RX8, "readOptions", "(LStageHouse$Tape;)V"⟩
abbrev cX8_optionAt : ByteArray := prog_10_method_6_code
def yX8_optionAt : MethodName := ⟨RX8, "optionAt", "(LStageHouse$Tape;)I"⟩
abbrev cX8_readOption : ByteArray := prog_10_method_7_code
def yX8_readOption : MethodName := ⟨RX8, "readOption", "(LStageHouse$Tape;I)V"⟩
abbrev cX8_readBody : ByteArray := prog_10_method_8_code
def yX8_readBody : MethodName := ⟨RX8, "readBody", "(LStageHouse$Tape;)V"⟩
abbrev cX8_readAct : ByteArray := prog_10_method_9_code
def yX8_readAct : MethodName := ⟨RX8, "readAct", "(LStageHouse$Tape;)V"⟩
abbrev cX8_mostOf : ByteArray := prog_10_method_10_code
def yX8_mostOf : MethodName := ⟨RX8, "mostOf", "(I)I"⟩
abbrev cX8_kindAt : ByteArray := prog_10_method_11_code
def yX8_kindAt : MethodName := ⟨RX8, "kindAt", "(LStageHouse$Tape;)I"⟩
abbrev cX8_readChannels : ByteArray := prog_10_method_12_code
def yX8_readChannels : MethodName := ⟨RX8, "readChannels", "(LStageHouse$Tape;)J"⟩
abbrev cX8_find : ByteArray := prog_10_method_13_code
def yX8_find : MethodName := ⟨RX8, "find", "(I)I"⟩
abbrev cX8_tracked : ByteArray := prog_10_method_14_code
def yX8_tracked : MethodName := ⟨RX8, "tracked", "(II)I"⟩
abbrev cX8_trackAll : ByteArray := prog_10_method_15_code
def yX8_trackAll : MethodName := ⟨RX8, "trackAll", "(I[I)V"⟩
def RX9 : String := "StageHouse$Tape"
def TX9 : u_T := fun k => match k with
  | 0 => ("StageHouse$Tape", "bytes", "[B", true)
  | 1 => ("StageHouse$Tape", "length", "I", false)
  | 2 => ("StageHouse$Tape", "kind", "I", false)
  | 3 => ("StageHouse$Tape", "place", "I", false)
  | 4 => ("StageHouse$Tape", "after", "I", false)
  | 5 => ("StageHouse$Tape", "value", "I", false)
  | 6 => ("StageHouse$Tape", "used", "I", false)
  | 7 => ("StageHouse$Tape", "limit", "I", false)
  | 8 => ("StageHouse$Tape", "fault", "I", false)
  | _ => ("StageHouse$Tape", "faultPlace", "I", false)
def tyX9 : Nat → FieldType := fun k => match k with
  | 0 => .array .byte
  | 1 => .int
  | 2 => .int
  | 3 => .int
  | 4 => .int
  | 5 => .int
  | 6 => .int
  | 7 => .int
  | 8 => .int
  | _ => .int
theorem nmX9 : ∀ a, a < 10 → ∀ b, b < 10 → a ≠ b → (TX9 a).2.1 ≠ (TX9 b).2.1 := by decide +kernel
theorem tyX9_ok : ∀ k, k < 10 → parseFieldDescriptor (TX9 k).2.2.1 = some (tyX9 k) := by decide +kernel
abbrev cX9_init : ByteArray := prog_11_method_1_code
def yX9_init : MethodName := ⟨RX9, "<init>", "()V"⟩
abbrev cX9_hasRoom : ByteArray := prog_11_method_2_code
def yX9_hasRoom : MethodName := ⟨RX9, "hasRoom", "()Z"⟩
abbrev cX9_append : ByteArray := prog_11_method_3_code
def yX9_append : MethodName := ⟨RX9, "append", "(I)V"⟩
abbrev cX9_open : ByteArray := prog_11_method_4_code
def yX9_open : MethodName := ⟨RX9, "open", "(I)V"⟩
abbrev cX9_fail : ByteArray := prog_11_method_5_code
def yX9_fail : MethodName := ⟨RX9, "fail", "(II)V"⟩
abbrev cX9_next : ByteArray := prog_11_method_6_code
def yX9_next : MethodName := ⟨RX9, "next", "()V"⟩
abbrev cX9_isBlank : ByteArray := prog_11_method_7_code
def yX9_isBlank : MethodName := ⟨RX9, "isBlank", "(I)Z"⟩
abbrev cX9_scanWord : ByteArray := prog_11_method_8_code
def yX9_scanWord : MethodName := ⟨RX9, "scanWord", "()V"⟩
abbrev cX9_scanNumber : ByteArray := prog_11_method_9_code
def yX9_scanNumber : MethodName := ⟨RX9, "scanNumber", "()V"⟩
abbrev cX9_isSign : ByteArray := prog_11_method_10_code
def yX9_isSign : MethodName := ⟨RX9, "isSign", "(C)Z"⟩
abbrev cX9_takes : ByteArray := prog_11_method_11_code
def yX9_takes : MethodName := ⟨RX9, "takes", "(C)Z"⟩
abbrev cX9_need : ByteArray := prog_11_method_12_code
def yX9_need : MethodName := ⟨RX9, "need", "(C)V"⟩
abbrev cX9_isWord : ByteArray := prog_11_method_13_code
def yX9_isWord : MethodName := ⟨RX9, "isWord", "(Ljava/lang/String;)Z"⟩
abbrev cX9_takesWord : ByteArray := prog_11_method_14_code
def yX9_takesWord : MethodName := ⟨RX9, "takesWord", "(Ljava/lang/String;)Z"⟩
abbrev cX9_needWord : ByteArray := prog_11_method_15_code
def yX9_needWord : MethodName := ⟨RX9, "needWord", "(Ljava/lang/String;)V"⟩
abbrev cX9_number : ByteArray := prog_11_method_16_code
def yX9_number : MethodName := ⟨RX9, "number", "(II)I"⟩
def RX10 : String := "StageHouse$Ways"
def TX10 : u_T := fun k => match k with
  | 0 => ("StageHouse$Ways", "froms", "[I", true)
  | 1 => ("StageHouse$Ways", "tos", "[I", true)
  | 2 => ("StageHouse$Ways", "widths", "[I", true)
  | 3 => ("StageHouse$Ways", "times", "[I", true)
  | 4 => ("StageHouse$Ways", "crowds", "[I", true)
  | 5 => ("StageHouse$Ways", "left", "[I", true)
  | 6 => ("StageHouse$Ways", "flows", "[I", true)
  | 7 => ("StageHouse$Ways", "waits", "[I", true)
  | 8 => ("StageHouse$Ways", "layers", "[I", true)
  | 9 => ("StageHouse$Ways", "tried", "[I", true)
  | 10 => ("StageHouse$Ways", "spots", "[I", true)
  | 11 => ("StageHouse$Ways", "touches", "[I", true)
  | 12 => ("StageHouse$Ways", "touching", "[I", true)
  | _ => ("StageHouse$Ways", "count", "I", false)
def tyX10 : Nat → FieldType := fun k => match k with
  | 0 => .array .int
  | 1 => .array .int
  | 2 => .array .int
  | 3 => .array .int
  | 4 => .array .int
  | 5 => .array .int
  | 6 => .array .int
  | 7 => .array .int
  | 8 => .array .int
  | 9 => .array .int
  | 10 => .array .int
  | 11 => .array .int
  | 12 => .array .int
  | _ => .int
theorem nmX10 : ∀ a, a < 14 → ∀ b, b < 14 → a ≠ b → (TX10 a).2.1 ≠ (TX10 b).2.1 := by decide +kernel
theorem tyX10_ok : ∀ k, k < 14 → parseFieldDescriptor (TX10 k).2.2.1 = some (tyX10 k) := by decide +kernel
abbrev cX10_init : ByteArray := prog_12_method_1_code
def yX10_init : MethodName := ⟨RX10, "<init>", "()V"⟩
abbrev cX10_add : ByteArray := prog_12_method_2_code
def yX10_add : MethodName := ⟨RX10, "add", "(IIII)I"⟩
abbrev cX10_note : ByteArray := prog_12_method_3_code
def yX10_note : MethodName := ⟨RX10, "note", "(II)V"⟩
abbrev cX10_clear : ByteArray := prog_12_method_4_code
def yX10_clear : MethodName := ⟨RX10, "clear", "()V"⟩
abbrev cX10_leastTime : ByteArray := prog_12_method_5_code
def yX10_leastTime : MethodName := ⟨RX10, "leastTime", "()I"⟩
abbrev cX10_slowest : ByteArray := prog_12_method_6_code
def yX10_slowest : MethodName := ⟨RX10, "slowest", "()I"⟩
abbrev cX10_sendMore : ByteArray := prog_12_method_7_code
def yX10_sendMore : MethodName := ⟨RX10, "sendMore", "(I)I"⟩
abbrev cX10_sendFrom : ByteArray := prog_12_method_8_code
def yX10_sendFrom : MethodName := ⟨RX10, "sendFrom", "(II)I"⟩
abbrev cX10_layer : ByteArray := prog_12_method_9_code
def yX10_layer : MethodName := ⟨RX10, "layer", "(I)Z"⟩
abbrev cX10_walk : ByteArray := prog_12_method_10_code
def yX10_walk : MethodName := ⟨RX10, "walk", "(II)I"⟩
abbrev cX10_nextBy : ByteArray := prog_12_method_11_code
def yX10_nextBy : MethodName := ⟨RX10, "nextBy", "(II)I"⟩
abbrev cX10_narrowest : ByteArray := prog_12_method_12_code
def yX10_narrowest : MethodName := ⟨RX10, "narrowest", "(II)I"⟩
abbrev cX10_endOf : ByteArray := prog_12_method_13_code
def yX10_endOf : MethodName := ⟨RX10, "endOf", "(III)I"⟩
abbrev cX10_roomOf : ByteArray := prog_12_method_14_code
def yX10_roomOf : MethodName := ⟨RX10, "roomOf", "(II)I"⟩
abbrev cX10_push : ByteArray := prog_12_method_15_code
def yX10_push : MethodName := ⟨RX10, "push", "(III)V"⟩
def RX11 : String := "StageHouse"
def TX11 : u_T := fun k => match k with
  | 0 => ("StageHouse", "tape", "LStageHouse$Tape;", true)
  | 1 => ("StageHouse", "rig", "LStageHouse$Rig;", true)
  | 2 => ("StageHouse", "board", "LStageHouse$Board;", true)
  | 3 => ("StageHouse", "hall", "LStageHouse$Hall;", true)
  | 4 => ("StageHouse", "prices", "LStageHouse$Prices;", true)
  | 5 => ("StageHouse", "box", "LStageHouse$Box;", true)
  | 6 => ("StageHouse", "parties", "LStageHouse$Parties;", true)
  | 7 => ("StageHouse", "ways", "LStageHouse$Ways;", true)
  | _ => ("StageHouse", "now", "I", false)
def tyX11 : Nat → FieldType := fun k => match k with
  | 0 => .object "StageHouse$Tape"
  | 1 => .object "StageHouse$Rig"
  | 2 => .object "StageHouse$Board"
  | 3 => .object "StageHouse$Hall"
  | 4 => .object "StageHouse$Prices"
  | 5 => .object "StageHouse$Box"
  | 6 => .object "StageHouse$Parties"
  | 7 => .object "StageHouse$Ways"
  | _ => .int
theorem nmX11 : ∀ a, a < 9 → ∀ b, b < 9 → a ≠ b → (TX11 a).2.1 ≠ (TX11 b).2.1 := by decide +kernel
theorem tyX11_ok : ∀ k, k < 9 → parseFieldDescriptor (TX11 k).2.2.1 = some (tyX11 k) := by decide +kernel
abbrev cX11_init : ByteArray := prog_1_method_1_code
def yX11_init : MethodName := ⟨RX11, "<init>", "()V"⟩
abbrev cX11_feed : ByteArray := prog_1_method_2_code
def yX11_feed : MethodName := ⟨RX11, "feed", "(IIIII)I"⟩
abbrev cX11_cut : ByteArray := prog_1_method_3_code
def yX11_cut : MethodName := ⟨RX11, "cut", "(I)I"⟩
abbrev cX11_list : ByteArray := prog_1_method_4_code
def yX11_list : MethodName := ⟨RX11, "list", "(I)I"⟩
abbrev cX11_lock : ByteArray := prog_1_method_5_code
def yX11_lock : MethodName := ⟨RX11, "lock", "(I)I"⟩
abbrev cX11_rules : ByteArray := prog_1_method_6_code
def yX11_rules : MethodName := ⟨RX11, "rules", "()I"⟩
abbrev cX11_shares : ByteArray := prog_1_method_7_code
def yX11_shares : MethodName := ⟨RX11, "shares", "()I"⟩
abbrev cX11_fault : ByteArray := prog_1_method_8_code
def yX11_fault : MethodName := ⟨RX11, "fault", "()I"⟩
abbrev cX11_tracks : ByteArray := prog_1_method_9_code
def yX11_tracks : MethodName := ⟨RX11, "tracks", "(IIII)I"⟩
abbrev cX11_go : ByteArray := prog_1_method_10_code
def yX11_go : MethodName := ⟨RX11, "go", "(I)Z"⟩
abbrev cX11_play : ByteArray := prog_1_method_11_code
def yX11_play : MethodName := ⟨RX11, "play", "(III)Z"⟩
abbrev cX11_of : ByteArray := prog_1_method_12_code
def yX11_of : MethodName := ⟨RX11, "of", "(II)I"⟩
abbrev cX11_level : ByteArray := prog_1_method_13_code
def yX11_level : MethodName := ⟨RX11, "level", "(II)I"⟩
abbrev cX11_out : ByteArray := prog_1_method_14_code
def yX11_out : MethodName := ⟨RX11, "out", "(I)I"⟩
abbrev cX11_patch : ByteArray := prog_1_method_15_code
def yX11_patch : MethodName := ⟨RX11, "patch", "(III)Z"⟩
abbrev cX11_grand : ByteArray := prog_1_method_16_code
def yX11_grand : MethodName := ⟨RX11, "grand", "(I)Z"⟩
abbrev cX11_wire : ByteArray := prog_1_method_17_code
def yX11_wire : MethodName := ⟨RX11, "wire", "(I)I"⟩
abbrev cX11_axis : ByteArray := prog_1_method_18_code
def yX11_axis : MethodName := ⟨RX11, "axis", "(IIIII)Z"⟩
abbrev cX11_to : ByteArray := prog_1_method_19_code
def yX11_to : MethodName := ⟨RX11, "to", "(II)Z"⟩
abbrev cX11_axisAt : ByteArray := prog_1_method_20_code
def yX11_axisAt : MethodName := ⟨RX11, "axisAt", "(II)I"⟩
abbrev cX11_faults : ByteArray := prog_1_method_21_code
def yX11_faults : MethodName := ⟨RX11, "faults", "(II)Z"⟩
abbrev cX11_stop : ByteArray := prog_1_method_22_code
def yX11_stop : MethodName := ⟨RX11, "stop", "(Z)V"⟩
abbrev cX11_event : ByteArray := prog_1_method_23_code
def yX11_event : MethodName := ⟨RX11, "event", "(IZ)Z"⟩
abbrev cX11_tick : ByteArray := prog_1_method_24_code
def yX11_tick : MethodName := ⟨RX11, "tick", "(I)I"⟩
abbrev cX11_section : ByteArray := prog_1_method_25_code
def yX11_section : MethodName := ⟨RX11, "section", "(II)Z"⟩
abbrev cX11_row : ByteArray := prog_1_method_26_code
def yX11_row : MethodName := ⟨RX11, "row", "(III)Z"⟩
abbrev cX11_line : ByteArray := prog_1_method_27_code
def yX11_line : MethodName := ⟨RX11, "line", "(IZ)Z"⟩
abbrev cX11_ask : ByteArray := prog_1_method_28_code
def yX11_ask : MethodName := ⟨RX11, "ask", "(IIIIII)I"⟩
abbrev cX11_hold : ByteArray := prog_1_method_29_code
def yX11_hold : MethodName := ⟨RX11, "hold", "(II)I"⟩
abbrev cX11_pay : ByteArray := prog_1_method_30_code
def yX11_pay : MethodName := ⟨RX11, "pay", "(II)I"⟩
abbrev cX11_give : ByteArray := prog_1_method_31_code
def yX11_give : MethodName := ⟨RX11, "give", "(I)Z"⟩
abbrev cX11_back : ByteArray := prog_1_method_32_code
def yX11_back : MethodName := ⟨RX11, "back", "(II)I"⟩
abbrev cX11_enter : ByteArray := prog_1_method_33_code
def yX11_enter : MethodName := ⟨RX11, "enter", "(I)I"⟩
abbrev cX11_seat : ByteArray := prog_1_method_34_code
def yX11_seat : MethodName := ⟨RX11, "seat", "(II)I"⟩
abbrev cX11_told : ByteArray := prog_1_method_35_code
def yX11_told : MethodName := ⟨RX11, "told", "(I)I"⟩
abbrev cX11_share : ByteArray := prog_1_method_36_code
def yX11_share : MethodName := ⟨RX11, "share", "(II)J"⟩
abbrev cX11_way : ByteArray := prog_1_method_37_code
def yX11_way : MethodName := ⟨RX11, "way", "(IIII)I"⟩
abbrev cX11_crowd : ByteArray := prog_1_method_38_code
def yX11_crowd : MethodName := ⟨RX11, "crowd", "(II)Z"⟩
abbrev cX11_clearWays : ByteArray := prog_1_method_39_code
def yX11_clearWays : MethodName := ⟨RX11, "clearWays", "()V"⟩
abbrev cX11_empty : ByteArray := prog_1_method_40_code
def yX11_empty : MethodName := ⟨RX11, "empty", "()I"⟩
abbrev cX11_within : ByteArray := prog_1_method_41_code
def yX11_within : MethodName := ⟨RX11, "within", "(III)Z"⟩
abbrev cX11_cueOf : ByteArray := prog_1_method_42_code
def yX11_cueOf : MethodName := ⟨RX11, "cueOf", "(III)I"⟩
abbrev cX11_closeText : ByteArray := prog_1_method_43_code
def yX11_closeText : MethodName := ⟨RX11, "closeText", "(I)I"⟩
def RX12 : String := "StageHouseModel"
def TX12 : u_T := fun k => match k with
  | 0 => ("StageHouseModel", "tape", "[B", true)
  | 1 => ("StageHouseModel", "tapeSize", "I", false)
  | 2 => ("StageHouseModel", "sort", "[I", true)
  | 3 => ("StageHouseModel", "tells", "[J", true)
  | 4 => ("StageHouseModel", "place", "[I", true)
  | 5 => ("StageHouseModel", "at", "I", false)
  | 6 => ("StageHouseModel", "fault", "I", false)
  | 7 => ("StageHouseModel", "faultPlace", "I", false)
  | 8 => ("StageHouseModel", "stopped", "Z", false)
  | 9 => ("StageHouseModel", "cueCount", "[I", true)
  | 10 => ("StageHouseModel", "cueName", "[I", true)
  | 11 => ("StageHouseModel", "cueUp", "[I", true)
  | 12 => ("StageHouseModel", "cueDown", "[I", true)
  | 13 => ("StageHouseModel", "cueWait", "[I", true)
  | 14 => ("StageHouseModel", "cueFollow", "[I", true)
  | 15 => ("StageHouseModel", "cueLink", "[I", true)
  | 16 => ("StageHouseModel", "cueActs", "[I", true)
  | 17 => ("StageHouseModel", "cueFirst", "[I", true)
  | 18 => ("StageHouseModel", "tracked", "[I", true)
  | 19 => ("StageHouseModel", "actKind", "[I", true)
  | 20 => ("StageHouseModel", "actA", "[I", true)
  | 21 => ("StageHouseModel", "actB", "[I", true)
  | 22 => ("StageHouseModel", "nName", "[I", true)
  | 23 => ("StageHouseModel", "nUp", "[I", true)
  | 24 => ("StageHouseModel", "nDown", "[I", true)
  | 25 => ("StageHouseModel", "nWait", "[I", true)
  | 26 => ("StageHouseModel", "nFollow", "[I", true)
  | 27 => ("StageHouseModel", "nLink", "[I", true)
  | 28 => ("StageHouseModel", "nActs", "[I", true)
  | 29 => ("StageHouseModel", "nFirst", "[I", true)
  | 30 => ("StageHouseModel", "nTracked", "[I", true)
  | 31 => ("StageHouseModel", "nKind", "[I", true)
  | 32 => ("StageHouseModel", "nA", "[I", true)
  | 33 => ("StageHouseModel", "nB", "[I", true)
  | 34 => ("StageHouseModel", "newCues", "I", false)
  | 35 => ("StageHouseModel", "newActs", "I", false)
  | 36 => ("StageHouseModel", "row", "[I", true)
  | 37 => ("StageHouseModel", "named", "[Z", true)
  | 38 => ("StageHouseModel", "nameGood", "Z", false)
  | 39 => ("StageHouseModel", "meant", "[Z", true)
  | 40 => ("StageHouseModel", "now", "I", false)
  | 41 => ("StageHouseModel", "current", "[I", true)
  | 42 => ("StageHouseModel", "beginsAt", "[I", true)
  | 43 => ("StageHouseModel", "goesAt", "[I", true)
  | 44 => ("StageHouseModel", "master", "[I", true)
  | 45 => ("StageHouseModel", "level", "[I", true)
  | 46 => ("StageHouseModel", "target", "[I", true)
  | 47 => ("StageHouseModel", "fromLevel", "[I", true)
  | 48 => ("StageHouseModel", "fromTick", "[I", true)
  | 49 => ("StageHouseModel", "ticks", "[I", true)
  | 50 => ("StageHouseModel", "lastList", "[I", true)
  | 51 => ("StageHouseModel", "patched", "[I", true)
  | 52 => ("StageHouseModel", "curves", "[I", true)
  | 53 => ("StageHouseModel", "grand", "I", false)
  | 54 => ("StageHouseModel", "axisThere", "[Z", true)
  | 55 => ("StageHouseModel", "low", "[I", true)
  | 56 => ("StageHouseModel", "high", "[I", true)
  | 57 => ("StageHouseModel", "fast", "[I", true)
  | 58 => ("StageHouseModel", "acc", "[I", true)
  | 59 => ("StageHouseModel", "spot", "[I", true)
  | 60 => ("StageHouseModel", "speed", "[I", true)
  | 61 => ("StageHouseModel", "axisTarget", "[I", true)
  | 62 => ("StageHouseModel", "seen", "[I", true)
  | 63 => ("StageHouseModel", "seenBefore", "[I", true)
  | 64 => ("StageHouseModel", "faulty", "[I", true)
  | 65 => ("StageHouseModel", "refused", "[I", true)
  | 66 => ("StageHouseModel", "events", "[Z", true)
  | 67 => ("StageHouseModel", "stopOn", "Z", false)
  | 68 => ("StageHouseModel", "lockSize", "[I", true)
  | 69 => ("StageHouseModel", "lockSort", "[I", true)
  | 70 => ("StageHouseModel", "lockTells", "[J", true)
  | 71 => ("StageHouseModel", "lockAt", "I", false)
  | 72 => ("StageHouseModel", "lockOf", "I", false)
  | 73 => ("StageHouseModel", "prices", "[I", true)
  | 74 => ("StageHouseModel", "rowSection", "[I", true)
  | 75 => ("StageHouseModel", "rowSeats", "[I", true)
  | 76 => ("StageHouseModel", "seatIs", "[I", true)
  | 77 => ("StageHouseModel", "lineUp", "[Z", true)
  | 78 => ("StageHouseModel", "holdThere", "[Z", true)
  | 79 => ("StageHouseModel", "holdRow", "[I", true)
  | 80 => ("StageHouseModel", "holdFirst", "[I", true)
  | 81 => ("StageHouseModel", "holdMany", "[I", true)
  | 82 => ("StageHouseModel", "holdTill", "[I", true)
  | 83 => ("StageHouseModel", "holdSection", "[I", true)
  | 84 => ("StageHouseModel", "holdKind", "[I", true)
  | 85 => ("StageHouseModel", "holdDay", "[I", true)
  | 86 => ("StageHouseModel", "ticketRow", "[I", true)
  | 87 => ("StageHouseModel", "ticketFirst", "[I", true)
  | 88 => ("StageHouseModel", "ticketMany", "[I", true)
  | 89 => ("StageHouseModel", "ticketPaid", "[I", true)
  | 90 => ("StageHouseModel", "ticketBack", "[Z", true)
  | 91 => ("StageHouseModel", "ticketIn", "[Z", true)
  | 92 => ("StageHouseModel", "tickets", "I", false)
  | 93 => ("StageHouseModel", "taken", "J", false)
  | 94 => ("StageHouseModel", "ruleCount", "I", false)
  | 95 => ("StageHouseModel", "ruleFirst", "[I", true)
  | 96 => ("StageHouseModel", "ruleSign", "[I", true)
  | 97 => ("StageHouseModel", "ruleBy", "[I", true)
  | 98 => ("StageHouseModel", "conditionKind", "[I", true)
  | 99 => ("StageHouseModel", "conditionN", "[I", true)
  | 100 => ("StageHouseModel", "newRules", "I", false)
  | 101 => ("StageHouseModel", "newFirst", "[I", true)
  | 102 => ("StageHouseModel", "newSign", "[I", true)
  | 103 => ("StageHouseModel", "newBy", "[I", true)
  | 104 => ("StageHouseModel", "newKind", "[I", true)
  | 105 => ("StageHouseModel", "newN", "[I", true)
  | 106 => ("StageHouseModel", "ofTaken", "[J", true)
  | 107 => ("StageHouseModel", "ofParty", "[J", true)
  | 108 => ("StageHouseModel", "besides", "[J", true)
  | 109 => ("StageHouseModel", "newTaken", "[J", true)
  | 110 => ("StageHouseModel", "newParty", "[J", true)
  | 111 => ("StageHouseModel", "newBesides", "[J", true)
  | 112 => ("StageHouseModel", "isNamed", "[Z", true)
  | 113 => ("StageHouseModel", "wayCount", "I", false)
  | 114 => ("StageHouseModel", "wayFrom", "[I", true)
  | 115 => ("StageHouseModel", "wayTo", "[I", true)
  | 116 => ("StageHouseModel", "wayMany", "[I", true)
  | 117 => ("StageHouseModel", "wayTime", "[I", true)
  | 118 => ("StageHouseModel", "crowds", "[I", true)
  | 119 => ("StageHouseModel", "head", "[I", true)
  | 120 => ("StageHouseModel", "after", "[I", true)
  | 121 => ("StageHouseModel", "leads", "[I", true)
  | 122 => ("StageHouseModel", "room", "[I", true)
  | 123 => ("StageHouseModel", "edges", "I", false)
  | 124 => ("StageHouseModel", "cameBy", "[I", true)
  | 125 => ("StageHouseModel", "queue", "[I", true)
  | _ => ("StageHouseModel", "waiting", "[I", true)
def tyX12 : Nat → FieldType := fun k => match k with
  | 0 => .array .byte
  | 1 => .int
  | 2 => .array .int
  | 3 => .array .long
  | 4 => .array .int
  | 5 => .int
  | 6 => .int
  | 7 => .int
  | 8 => .boolean
  | 9 => .array .int
  | 10 => .array .int
  | 11 => .array .int
  | 12 => .array .int
  | 13 => .array .int
  | 14 => .array .int
  | 15 => .array .int
  | 16 => .array .int
  | 17 => .array .int
  | 18 => .array .int
  | 19 => .array .int
  | 20 => .array .int
  | 21 => .array .int
  | 22 => .array .int
  | 23 => .array .int
  | 24 => .array .int
  | 25 => .array .int
  | 26 => .array .int
  | 27 => .array .int
  | 28 => .array .int
  | 29 => .array .int
  | 30 => .array .int
  | 31 => .array .int
  | 32 => .array .int
  | 33 => .array .int
  | 34 => .int
  | 35 => .int
  | 36 => .array .int
  | 37 => .array .boolean
  | 38 => .boolean
  | 39 => .array .boolean
  | 40 => .int
  | 41 => .array .int
  | 42 => .array .int
  | 43 => .array .int
  | 44 => .array .int
  | 45 => .array .int
  | 46 => .array .int
  | 47 => .array .int
  | 48 => .array .int
  | 49 => .array .int
  | 50 => .array .int
  | 51 => .array .int
  | 52 => .array .int
  | 53 => .int
  | 54 => .array .boolean
  | 55 => .array .int
  | 56 => .array .int
  | 57 => .array .int
  | 58 => .array .int
  | 59 => .array .int
  | 60 => .array .int
  | 61 => .array .int
  | 62 => .array .int
  | 63 => .array .int
  | 64 => .array .int
  | 65 => .array .int
  | 66 => .array .boolean
  | 67 => .boolean
  | 68 => .array .int
  | 69 => .array .int
  | 70 => .array .long
  | 71 => .int
  | 72 => .int
  | 73 => .array .int
  | 74 => .array .int
  | 75 => .array .int
  | 76 => .array .int
  | 77 => .array .boolean
  | 78 => .array .boolean
  | 79 => .array .int
  | 80 => .array .int
  | 81 => .array .int
  | 82 => .array .int
  | 83 => .array .int
  | 84 => .array .int
  | 85 => .array .int
  | 86 => .array .int
  | 87 => .array .int
  | 88 => .array .int
  | 89 => .array .int
  | 90 => .array .boolean
  | 91 => .array .boolean
  | 92 => .int
  | 93 => .long
  | 94 => .int
  | 95 => .array .int
  | 96 => .array .int
  | 97 => .array .int
  | 98 => .array .int
  | 99 => .array .int
  | 100 => .int
  | 101 => .array .int
  | 102 => .array .int
  | 103 => .array .int
  | 104 => .array .int
  | 105 => .array .int
  | 106 => .array .long
  | 107 => .array .long
  | 108 => .array .long
  | 109 => .array .long
  | 110 => .array .long
  | 111 => .array .long
  | 112 => .array .boolean
  | 113 => .int
  | 114 => .array .int
  | 115 => .array .int
  | 116 => .array .int
  | 117 => .array .int
  | 118 => .array .int
  | 119 => .array .int
  | 120 => .array .int
  | 121 => .array .int
  | 122 => .array .int
  | 123 => .int
  | 124 => .array .int
  | 125 => .array .int
  | _ => .array .int
theorem nmX12 : ∀ a, a < 127 → ∀ b, b < 127 → a ≠ b → (TX12 a).2.1 ≠ (TX12 b).2.1 := by decide +kernel
theorem tyX12_ok : ∀ k, k < 127 → parseFieldDescriptor (TX12 k).2.2.1 = some (tyX12 k) := by decide +kernel
abbrev cX12_init : ByteArray := prog_14_method_1_code
def yX12_init : MethodName := ⟨RX12, "<init>", "()V"⟩
abbrev cX12_feed : ByteArray := prog_14_method_3_code
def yX12_feed : MethodName := ⟨RX12, "feed", "(IIIII)I"⟩
abbrev cX12_lay : ByteArray := prog_14_method_4_code
def yX12_lay : MethodName := ⟨RX12, "lay", "(I)V"⟩
abbrev cX12_cut : ByteArray := prog_14_method_5_code
def yX12_cut : MethodName := ⟨RX12, "cut", "(I)I"⟩
abbrev cX12_nearest : ByteArray := prog_14_method_6_code
def yX12_nearest : MethodName := ⟨RX12, "nearest", "(JJ)J"⟩
abbrev cX12_word : ByteArray := prog_14_method_7_code
def yX12_word : MethodName := ⟨RX12, "word", "(Ljava/lang/String;)J"⟩
abbrev cX12_isLetter : ByteArray := prog_14_method_8_code
def yX12_isLetter : MethodName := ⟨RX12, "isLetter", "(I)Z"⟩
abbrev cX12_isDigit : ByteArray := prog_14_method_9_code
def yX12_isDigit : MethodName := ⟨RX12, "isDigit", "(I)Z"⟩
abbrev cX12_isSign : ByteArray := prog_14_method_10_code
def yX12_isSign : MethodName := ⟨RX12, "isSign", "(I)Z"⟩
abbrev cX12_read : ByteArray := prog_14_method_11_code
def yX12_read : MethodName := ⟨RX12, "read", "()V"⟩
abbrev cX12_tell : ByteArray := prog_14_method_12_code
def yX12_tell : MethodName := ⟨RX12, "tell", "(II)V"⟩
abbrev cX12_wrong : ByteArray := prog_14_method_13_code
def yX12_wrong : MethodName := ⟨RX12, "wrong", "()V"⟩
abbrev cX12_isWord : ByteArray := prog_14_method_14_code
def yX12_isWord : MethodName := ⟨RX12, "isWord", "(Ljava/lang/String;)Z"⟩
abbrev cX12_takeWord : ByteArray := prog_14_method_15_code
def yX12_takeWord : MethodName := ⟨RX12, "takeWord", "(Ljava/lang/String;)Z"⟩
abbrev cX12_needWord : ByteArray := prog_14_method_16_code
def yX12_needWord : MethodName := ⟨RX12, "needWord", "(Ljava/lang/String;)V"⟩
abbrev cX12_takeSign : ByteArray := prog_14_method_17_code
def yX12_takeSign : MethodName := ⟨RX12, "takeSign", "(I)Z"⟩
abbrev cX12_needSign : ByteArray := prog_14_method_18_code
def yX12_needSign : MethodName := ⟨RX12, "needSign", "(I)V"⟩
abbrev cX12_number : ByteArray := prog_14_method_19_code
def yX12_number : MethodName := ⟨RX12, "number", "(II)I"⟩
abbrev cX12_fault : ByteArray := prog_14_method_20_code
def yX12_fault : MethodName := ⟨RX12, "fault", "()I"⟩
abbrev cX12_wasPoint : ByteArray := prog_14_method_21_code
def yX12_wasPoint : MethodName := ⟨RX12, "wasPoint", "()Z"⟩
abbrev cX12_name : ByteArray := prog_14_method_22_code
def yX12_name : MethodName := ⟨RX12, "name", "()I"⟩
abbrev cX12_list : ByteArray := prog_14_method_23_code
def yX12_list : MethodName := ⟨RX12, "list", "(I)I"⟩
abbrev cX12_cue : ByteArray := prog_14_method_24_code
def yX12_cue : MethodName := ⟨RX12, "cue", "(II)I"⟩
abbrev cX12_options : ByteArray := prog_14_method_25_code
def yX12_options : MethodName := ⟨RX12, "options", "(I)Z"⟩
abbrev cX12_act : ByteArray := prog_14_method_26_code
def yX12_act : MethodName := ⟨RX12, "act", "(I)V"⟩
abbrev cX12_channels : ByteArray := prog_14_method_27_code
def yX12_channels : MethodName := ⟨RX12, "channels", "()V"⟩
abbrev cX12_keep : ByteArray := prog_14_method_28_code
def yX12_keep : MethodName := ⟨RX12, "keep", "(I)V"⟩
abbrev cX12_cueOf : ByteArray := prog_14_method_29_code
def yX12_cueOf : MethodName := ⟨RX12, "cueOf", "(II)I"⟩
abbrev cX12_fresh : ByteArray := prog_14_method_30_code
def yX12_fresh : MethodName := ⟨RX12, "fresh", "(I)V"⟩
abbrev cX12_plays : ByteArray := prog_14_method_31_code
def yX12_plays : MethodName := ⟨RX12, "plays", "(III)V"⟩
abbrev cX12_begins : ByteArray := prog_14_method_32_code
def yX12_begins : MethodName := ⟨RX12, "begins", "(I)V"⟩
abbrev cX12_goes : ByteArray := prog_14_method_33_code
def yX12_goes : MethodName := ⟨RX12, "goes", "(I)Z"⟩
abbrev cX12_isList : ByteArray := prog_14_method_34_code
def yX12_isList : MethodName := ⟨RX12, "isList", "(I)Z"⟩
abbrev cX12_isChannel : ByteArray := prog_14_method_35_code
def yX12_isChannel : MethodName := ⟨RX12, "isChannel", "(I)Z"⟩
abbrev cX12_named : ByteArray := prog_14_method_36_code
def yX12_named : MethodName := ⟨RX12, "named", "(III)I"⟩
abbrev cX12_tracks : ByteArray := prog_14_method_37_code
def yX12_tracks : MethodName := ⟨RX12, "tracks", "(IIII)I"⟩
abbrev cX12_go : ByteArray := prog_14_method_38_code
def yX12_go : MethodName := ⟨RX12, "go", "(I)Z"⟩
abbrev cX12_play : ByteArray := prog_14_method_39_code
def yX12_play : MethodName := ⟨RX12, "play", "(III)Z"⟩
abbrev cX12_moves : ByteArray := prog_14_method_40_code
def yX12_moves : MethodName := ⟨RX12, "moves", "(I)Z"⟩
abbrev cX12_of : ByteArray := prog_14_method_41_code
def yX12_of : MethodName := ⟨RX12, "of", "(II)I"⟩
abbrev cX12_level : ByteArray := prog_14_method_42_code
def yX12_level : MethodName := ⟨RX12, "level", "(II)I"⟩
abbrev cX12_out : ByteArray := prog_14_method_43_code
def yX12_out : MethodName := ⟨RX12, "out", "(I)I"⟩
abbrev cX12_patch : ByteArray := prog_14_method_44_code
def yX12_patch : MethodName := ⟨RX12, "patch", "(III)Z"⟩
abbrev cX12_grand : ByteArray := prog_14_method_45_code
def yX12_grand : MethodName := ⟨RX12, "grand", "(I)Z"⟩
abbrev cX12_wire : ByteArray := prog_14_method_46_code
def yX12_wire : MethodName := ⟨RX12, "wire", "(I)I"⟩
abbrev cX12_lock : ByteArray := prog_14_method_47_code
def yX12_lock : MethodName := ⟨RX12, "lock", "(I)I"⟩
abbrev cX12_orText : ByteArray := prog_14_method_48_code
def yX12_orText : MethodName := ⟨RX12, "orText", "(I)V"⟩
abbrev cX12_andText : ByteArray := prog_14_method_49_code
def yX12_andText : MethodName := ⟨RX12, "andText", "(I)V"⟩
abbrev cX12_notText : ByteArray := prog_14_method_50_code
def yX12_notText : MethodName := ⟨RX12, "notText", "(I)V"⟩
abbrev cX12_isTrue : ByteArray := prog_14_method_51_code
def yX12_isTrue : MethodName := ⟨RX12, "isTrue", "(I)Z"⟩
abbrev cX12_lockNext : ByteArray := prog_14_method_52_code
def yX12_lockNext : MethodName := ⟨RX12, "lockNext", "()I"⟩
abbrev cX12_lockNumber : ByteArray := prog_14_method_53_code
def yX12_lockNumber : MethodName := ⟨RX12, "lockNumber", "()I"⟩
abbrev cX12_orOf : ByteArray := prog_14_method_54_code
def yX12_orOf : MethodName := ⟨RX12, "orOf", "()Z"⟩
abbrev cX12_andOf : ByteArray := prog_14_method_55_code
def yX12_andOf : MethodName := ⟨RX12, "andOf", "()Z"⟩
abbrev cX12_notOf : ByteArray := prog_14_method_56_code
def yX12_notOf : MethodName := ⟨RX12, "notOf", "()Z"⟩
abbrev cX12_goesTo : ByteArray := prog_14_method_57_code
def yX12_goesTo : MethodName := ⟨RX12, "goesTo", "(II)Z"⟩
abbrev cX12_isAxis : ByteArray := prog_14_method_58_code
def yX12_isAxis : MethodName := ⟨RX12, "isAxis", "(I)Z"⟩
abbrev cX12_axis : ByteArray := prog_14_method_59_code
def yX12_axis : MethodName := ⟨RX12, "axis", "(IIIII)Z"⟩
abbrev cX12_to : ByteArray := prog_14_method_60_code
def yX12_to : MethodName := ⟨RX12, "to", "(II)Z"⟩
abbrev cX12_axisAt : ByteArray := prog_14_method_61_code
def yX12_axisAt : MethodName := ⟨RX12, "axisAt", "(II)I"⟩
abbrev cX12_faults : ByteArray := prog_14_method_62_code
def yX12_faults : MethodName := ⟨RX12, "faults", "(II)Z"⟩
abbrev cX12_stop : ByteArray := prog_14_method_63_code
def yX12_stop : MethodName := ⟨RX12, "stop", "(Z)V"⟩
abbrev cX12_event : ByteArray := prog_14_method_64_code
def yX12_event : MethodName := ⟨RX12, "event", "(IZ)Z"⟩
abbrev cX12_brake : ByteArray := prog_14_method_65_code
def yX12_brake : MethodName := ⟨RX12, "brake", "(JJ)J"⟩
abbrev cX12_moveAxis : ByteArray := prog_14_method_66_code
def yX12_moveAxis : MethodName := ⟨RX12, "moveAxis", "(I)V"⟩
abbrev cX12_tick : ByteArray := prog_14_method_67_code
def yX12_tick : MethodName := ⟨RX12, "tick", "(I)I"⟩
abbrev cX12_oneTick : ByteArray := prog_14_method_68_code
def yX12_oneTick : MethodName := ⟨RX12, "oneTick", "()V"⟩
abbrev cX12_rules : ByteArray := prog_14_method_69_code
def yX12_rules : MethodName := ⟨RX12, "rules", "()I"⟩
abbrev cX12_capped : ByteArray := prog_14_method_70_code
def yX12_capped : MethodName := ⟨RX12, "capped", "(J)J"⟩
abbrev cX12_priceOf : ByteArray := prog_14_method_71_code
def yX12_priceOf : MethodName := ⟨RX12, "priceOf", "(IIII)J"⟩
abbrev cX12_section : ByteArray := prog_14_method_72_code
def yX12_section : MethodName := ⟨RX12, "section", "(II)Z"⟩
abbrev cX12_row : ByteArray := prog_14_method_73_code
def yX12_row : MethodName := ⟨RX12, "row", "(III)Z"⟩
abbrev cX12_line : ByteArray := prog_14_method_74_code
def yX12_line : MethodName := ⟨RX12, "line", "(IZ)Z"⟩
abbrev cX12_isFree : ByteArray := prog_14_method_75_code
def yX12_isFree : MethodName := ⟨RX12, "isFree", "(II)Z"⟩
abbrev cX12_mayTake : ByteArray := prog_14_method_76_code
def yX12_mayTake : MethodName := ⟨RX12, "mayTake", "(III)Z"⟩
abbrev cX12_ask : ByteArray := prog_14_method_77_code
def yX12_ask : MethodName := ⟨RX12, "ask", "(IIIIII)I"⟩
abbrev cX12_mark : ByteArray := prog_14_method_78_code
def yX12_mark : MethodName := ⟨RX12, "mark", "(IIII)V"⟩
abbrev cX12_frees : ByteArray := prog_14_method_79_code
def yX12_frees : MethodName := ⟨RX12, "frees", "(I)V"⟩
abbrev cX12_isHold : ByteArray := prog_14_method_80_code
def yX12_isHold : MethodName := ⟨RX12, "isHold", "(I)Z"⟩
abbrev cX12_priceOfHold : ByteArray := prog_14_method_81_code
def yX12_priceOfHold : MethodName := ⟨RX12, "priceOfHold", "(I)I"⟩
abbrev cX12_hold : ByteArray := prog_14_method_82_code
def yX12_hold : MethodName := ⟨RX12, "hold", "(II)I"⟩
abbrev cX12_pay : ByteArray := prog_14_method_83_code
def yX12_pay : MethodName := ⟨RX12, "pay", "(II)I"⟩
abbrev cX12_give : ByteArray := prog_14_method_84_code
def yX12_give : MethodName := ⟨RX12, "give", "(I)Z"⟩
abbrev cX12_isTicket : ByteArray := prog_14_method_85_code
def yX12_isTicket : MethodName := ⟨RX12, "isTicket", "(I)Z"⟩
abbrev cX12_back : ByteArray := prog_14_method_86_code
def yX12_back : MethodName := ⟨RX12, "back", "(II)I"⟩
abbrev cX12_enter : ByteArray := prog_14_method_87_code
def yX12_enter : MethodName := ⟨RX12, "enter", "(I)I"⟩
abbrev cX12_seat : ByteArray := prog_14_method_88_code
def yX12_seat : MethodName := ⟨RX12, "seat", "(II)I"⟩
abbrev cX12_told : ByteArray := prog_14_method_89_code
def yX12_told : MethodName := ⟨RX12, "told", "(I)I"⟩
abbrev cX12_shares : ByteArray := prog_14_method_90_code
def yX12_shares : MethodName := ⟨RX12, "shares", "()I"⟩
abbrev cX12_term : ByteArray := prog_14_method_91_code
def yX12_term : MethodName := ⟨RX12, "term", "(I)V"⟩
abbrev cX12_three : ByteArray := prog_14_method_92_code
def yX12_three : MethodName := ⟨RX12, "three", "(JJJJJJJJJ)J"⟩
abbrev cX12_common : ByteArray := prog_14_method_93_code
def yX12_common : MethodName := ⟨RX12, "common", "(JJ)J"⟩
abbrev cX12_share : ByteArray := prog_14_method_94_code
def yX12_share : MethodName := ⟨RX12, "share", "(II)J"⟩
abbrev cX12_way : ByteArray := prog_14_method_95_code
def yX12_way : MethodName := ⟨RX12, "way", "(IIII)I"⟩
abbrev cX12_crowd : ByteArray := prog_14_method_96_code
def yX12_crowd : MethodName := ⟨RX12, "crowd", "(II)Z"⟩
abbrev cX12_clearWays : ByteArray := prog_14_method_97_code
def yX12_clearWays : MethodName := ⟨RX12, "clearWays", "()V"⟩
abbrev cX12_edge : ByteArray := prog_14_method_98_code
def yX12_edge : MethodName := ⟨RX12, "edge", "(III)V"⟩
abbrev cX12_empty : ByteArray := prog_14_method_99_code
def yX12_empty : MethodName := ⟨RX12, "empty", "()I"⟩
abbrev cX12_out2 : ByteArray := prog_14_method_100_code
def yX12_out2 : MethodName := ⟨RX12, "out2", "(I)I"⟩
def RJ11 : String := "java/lang/Character"
abbrev cJ11_isValidCodePoint_9a6ad : ByteArray := prog_15_method_11_code
def yJ11_isValidCodePoint_9a6ad : MethodName := ⟨RJ11, "isValidCodePoint", "(I)Z"⟩
abbrev cJ11_highSurrogate_5068e : ByteArray := prog_15_method_28_code
def yJ11_highSurrogate_5068e : MethodName := ⟨RJ11, "highSurrogate", "(I)C"⟩
abbrev cJ11_lowSurrogate_5068e : ByteArray := prog_15_method_29_code
def yJ11_lowSurrogate_5068e : MethodName := ⟨RJ11, "lowSurrogate", "(I)C"⟩
def RJ6 : String := "java/lang/Integer"
abbrev cJ6_numberOfTrailingZeros_0f7a4 : ByteArray := prog_16_method_48_code
def yJ6_numberOfTrailingZeros_0f7a4 : MethodName := ⟨RJ6, "numberOfTrailingZeros", "(I)I"⟩
abbrev cJ6_bitCount_0f7a4 : ByteArray := prog_16_method_49_code
def yJ6_bitCount_0f7a4 : MethodName := ⟨RJ6, "bitCount", "(I)I"⟩
def RJ13 : String := "java/lang/Long"
abbrev cJ13_numberOfTrailingZeros_95d88 : ByteArray := prog_17_method_49_code
def yJ13_numberOfTrailingZeros_95d88 : MethodName := ⟨RJ13, "numberOfTrailingZeros", "(J)I"⟩
abbrev cJ13_bitCount_95d88 : ByteArray := prog_17_method_50_code
def yJ13_bitCount_95d88 : MethodName := ⟨RJ13, "bitCount", "(J)I"⟩
def RJ9 : String := "java/lang/Math"
abbrev cJ9_floorDiv_7cf53 : ByteArray := prog_18_method_47_code
def yJ9_floorDiv_7cf53 : MethodName := ⟨RJ9, "floorDiv", "(II)I"⟩
abbrev cJ9_floorDiv_f86c9 : ByteArray := prog_18_method_49_code
def yJ9_floorDiv_f86c9 : MethodName := ⟨RJ9, "floorDiv", "(JJ)J"⟩
abbrev cJ9_floorMod_f86c9 : ByteArray := prog_18_method_52_code
def yJ9_floorMod_f86c9 : MethodName := ⟨RJ9, "floorMod", "(JJ)J"⟩
abbrev cJ9_abs_0f7a4 : ByteArray := prog_18_method_59_code
def yJ9_abs_0f7a4 : MethodName := ⟨RJ9, "abs", "(I)I"⟩
abbrev cJ9_max_7cf53 : ByteArray := prog_18_method_65_code
def yJ9_max_7cf53 : MethodName := ⟨RJ9, "max", "(II)I"⟩
abbrev cJ9_min_7cf53 : ByteArray := prog_18_method_69_code
def yJ9_min_7cf53 : MethodName := ⟨RJ9, "min", "(II)I"⟩
def RJ0 : String := "java/lang/String"
abbrev cJ0_length_8abf5 : ByteArray := prog_19_method_54_code
def yJ0_length_8abf5 : MethodName := ⟨RJ0, "length", "()I"⟩
abbrev cJ0_charAt_5068e : ByteArray := prog_19_method_56_code
def yJ0_charAt_5068e : MethodName := ⟨RJ0, "charAt", "(I)C"⟩
abbrev cJ0_indexOf_0f7a4 : ByteArray := prog_19_method_79_code
def yJ0_indexOf_0f7a4 : MethodName := ⟨RJ0, "indexOf", "(I)I"⟩
abbrev cJ0_indexOf_7cf53 : ByteArray := prog_19_method_80_code
def yJ0_indexOf_7cf53 : MethodName := ⟨RJ0, "indexOf", "(II)I"⟩
abbrev cJ0_coder_7d493 : ByteArray := prog_19_method_152_code
def yJ0_coder_7d493 : MethodName := ⟨RJ0, "coder", "()B"⟩
abbrev cJ0_isLatin1_aae02 : ByteArray := prog_19_method_154_code
def yJ0_isLatin1_aae02 : MethodName := ⟨RJ0, "isLatin1", "()Z"⟩
abbrev cJ0_checkIndex_df160 : ByteArray := prog_19_method_155_code
def yJ0_checkIndex_df160 : MethodName := ⟨RJ0, "checkIndex", "(II)V"⟩
abbrev cJ0_checkBoundsBeginEnd_23922 : ByteArray := prog_19_method_158_code
def yJ0_checkBoundsBeginEnd_23922 : MethodName := ⟨RJ0, "checkBoundsBeginEnd", "(III)V"⟩
def RJ1 : String := "java/lang/StringLatin1"
abbrev cJ1_charAt_3b067 : ByteArray := prog_20_method_2_code
def yJ1_charAt_3b067 : MethodName := ⟨RJ1, "charAt", "([BI)C"⟩
abbrev cJ1_canEncode_9a6ad : ByteArray := prog_20_method_4_code
def yJ1_canEncode_9a6ad : MethodName := ⟨RJ1, "canEncode", "(I)Z"⟩
abbrev cJ1_indexOf_4cfef : ByteArray := prog_20_method_22_code
def yJ1_indexOf_4cfef : MethodName := ⟨RJ1, "indexOf", "([BIII)I"⟩
abbrev cJ1_indexOfChar_4cfef : ByteArray := prog_20_method_23_code
def yJ1_indexOfChar_4cfef : MethodName := ⟨RJ1, "indexOfChar", "([BIII)I"⟩
def RJ2 : String := "java/lang/StringUTF16"
abbrev cJ2_getChar_3b067 : ByteArray := prog_21_method_5_code
def yJ2_getChar_3b067 : MethodName := ⟨RJ2, "getChar", "([BI)C"⟩
abbrev cJ2_length_9d52b : ByteArray := prog_21_method_6_code
def yJ2_length_9d52b : MethodName := ⟨RJ2, "length", "([B)I"⟩
abbrev cJ2_indexOf_4cfef : ByteArray := prog_21_method_40_code
def yJ2_indexOf_4cfef : MethodName := ⟨RJ2, "indexOf", "([BIII)I"⟩
abbrev cJ2_indexOfChar_4cfef : ByteArray := prog_21_method_47_code
def yJ2_indexOfChar_4cfef : MethodName := ⟨RJ2, "indexOfChar", "([BIII)I"⟩
abbrev cJ2_indexOfCharUnsafe_4cfef : ByteArray := prog_21_method_48_code
def yJ2_indexOfCharUnsafe_4cfef : MethodName := ⟨RJ2, "indexOfCharUnsafe", "([BIII)I"⟩
abbrev cJ2_indexOfSupplementary_4cfef : ByteArray := prog_21_method_49_code
def yJ2_indexOfSupplementary_4cfef : MethodName := ⟨RJ2, "indexOfSupplementary", "([BIII)I"⟩
abbrev cJ2_charAt_3b067 : ByteArray := prog_21_method_83_code
def yJ2_charAt_3b067 : MethodName := ⟨RJ2, "charAt", "([BI)C"⟩
abbrev cJ2_checkIndex_2214a : ByteArray := prog_21_method_91_code
def yJ2_checkIndex_2214a : MethodName := ⟨RJ2, "checkIndex", "(I[B)V"⟩
abbrev cJ2_checkBoundsBeginEnd_d044e : ByteArray := prog_21_method_93_code
def yJ2_checkBoundsBeginEnd_d044e : MethodName := ⟨RJ2, "checkBoundsBeginEnd", "(II[B)V"⟩
def RJ7 : String := "java/util/Arrays"
abbrev cJ7_fill_53178 : ByteArray := prog_22_method_103_code
def yJ7_fill_53178 : MethodName := ⟨RJ7, "fill", "([II)V"⟩
def RJ3 : String := "jdk/internal/util/Preconditions"
abbrev cJ3_checkIndex_8e157 : ByteArray := prog_23_method_11_code
def yJ3_checkIndex_8e157 : MethodName := ⟨RJ3, "checkIndex", "(IILjava/util/function/BiFunction;)I"⟩
abbrev cJ3_checkFromToIndex_8c36e : ByteArray := prog_23_method_12_code
def yJ3_checkFromToIndex_8c36e : MethodName := ⟨RJ3, "checkFromToIndex", "(IIILjava/util/function/BiFunction;)I"⟩
def RL : String := "StageHouseLaw"
abbrev vwCl : List vw_C := [(RX0, TX0, 14), (RX1, TX1, 8), (RX2, TX2, 17), (RX3, TX3, 10), (RX4, TX4, 5), (RX5, TX5, 5), (RX6, TX6, 3), (RX7, TX7, 5), (RX8, TX8, 14), (RX9, TX9, 10), (RX10, TX10, 14), (RX11, TX11, 9), (RX12, TX12, 127)]

/-- the tables' words that any callee may ask for -/
def tb : List Cond := lw_tbl.filter goodWord
theorem tb_t {w : Cond} (h : w ∈ tables_1) (g : goodWord w = true) : w ∈ tb := List.mem_filter.mpr ⟨List.mem_append_right _ h, g⟩
theorem tb_s {w : Cond} (h : w ∈ k2_sels lw_privs) (g : goodWord w = true) : w ∈ tb := List.mem_filter.mpr ⟨List.mem_append_left _ h, g⟩
theorem tb_good {w : Cond} (h : w ∈ tb) : (w.onTables && w.keeps) = true ∨ ∃ ty, w = .arrayClass ty := good_of_word (List.mem_filter.mp h).2

theorem inT_of {ws : List Cond} (ps : List Nat) (h : ws = ps.filterMap (fun i => tables_1[i]?)) (g : ws.all goodWord = true) : ∀ w ∈ ws, w ∈ tb := by
  intro w hw
  have h1 := List.all_eq_true.mp g w hw
  rw [h] at hw
  obtain ⟨i, -, hi⟩ := List.mem_filterMap.mp hw
  exact tb_t (List.mem_of_getElem? hi) h1
theorem inT0 : ∀ w ∈ u_ws RX0 TX0 14, w ∈ tb := inT_of [123, 125, 127, 129, 131, 133, 135, 137, 139, 141, 143, 145, 147, 149] (by decide +kernel) (by decide +kernel)
theorem inT1 : ∀ w ∈ u_ws RX1 TX1 8, w ∈ tb := inT_of [312, 314, 316, 318, 320, 322, 324, 326] (by decide +kernel) (by decide +kernel)
theorem inT2 : ∀ w ∈ u_ws RX2 TX2 17, w ∈ tb := inT_of [403, 405, 407, 409, 411, 413, 415, 417, 419, 421, 423, 425, 427, 429, 431, 433, 435] (by decide +kernel) (by decide +kernel)
theorem inT3 : ∀ w ∈ u_ws RX3 TX3 10, w ∈ tb := inT_of [275, 277, 279, 281, 283, 285, 287, 289, 291, 293] (by decide +kernel) (by decide +kernel)
theorem inT4 : ∀ w ∈ u_ws RX4 TX4 5, w ∈ tb := inT_of [346, 348, 350, 352, 354] (by decide +kernel) (by decide +kernel)
theorem inT5 : ∀ w ∈ u_ws RX5 TX5 5, w ∈ tb := inT_of [450, 452, 454, 456, 458] (by decide +kernel) (by decide +kernel)
theorem inT6 : ∀ w ∈ u_ws RX6 TX6 3, w ∈ tb := inT_of [367, 369, 371] (by decide +kernel) (by decide +kernel)
theorem inT7 : ∀ w ∈ u_ws RX7 TX7 5, w ∈ tb := inT_of [164, 166, 168, 170, 172] (by decide +kernel) (by decide +kernel)
theorem inT8 : ∀ w ∈ u_ws RX8 TX8 14, w ∈ tb := inT_of [216, 218, 220, 222, 224, 226, 228, 230, 232, 234, 236, 238, 240, 242] (by decide +kernel) (by decide +kernel)
theorem inT9 : ∀ w ∈ u_ws RX9 TX9 10, w ∈ tb := inT_of [63, 65, 67, 69, 71, 73, 75, 77, 79, 81] (by decide +kernel) (by decide +kernel)
theorem inT10 : ∀ w ∈ u_ws RX10 TX10 14, w ∈ tb := inT_of [483, 485, 487, 489, 491, 493, 495, 497, 499, 501, 503, 505, 507, 509] (by decide +kernel) (by decide +kernel)
theorem inT11 : ∀ w ∈ u_ws RX11 TX11 9, w ∈ tb := inT_of [521, 523, 525, 527, 529, 531, 533, 535, 537] (by decide +kernel) (by decide +kernel)
theorem inT12 : ∀ w ∈ u_ws RX12 TX12 127, w ∈ tb := inT_of [1498, 1500, 1502, 1504, 1506, 1508, 1510, 1512, 1514, 1516, 1518, 1520, 1522, 1524, 1526, 1528, 1530, 1532, 1534, 1536, 1538, 1540, 1542, 1544, 1546, 1548, 1550, 1552, 1554, 1556, 1558, 1560, 1562, 1564, 1566, 1568, 1570, 1572, 1574, 1576, 1578, 1580, 1582, 1584, 1586, 1588, 1590, 1592, 1594, 1596, 1598, 1600, 1602, 1604, 1606, 1608, 1610, 1612, 1614, 1616, 1618, 1620, 1622, 1624, 1626, 1628, 1630, 1632, 1634, 1636, 1638, 1640, 1642, 1644, 1646, 1648, 1650, 1652, 1654, 1656, 1658, 1660, 1662, 1664, 1666, 1668, 1670, 1672, 1674, 1676, 1678, 1680, 1682, 1684, 1686, 1688, 1690, 1692, 1694, 1696, 1698, 1700, 1702, 1704, 1706, 1708, 1710, 1712, 1714, 1716, 1718, 1720, 1722, 1724, 1726, 1728, 1730, 1732, 1734, 1736, 1738, 1740, 1742, 1744, 1746, 1748, 1750] (by decide +kernel) (by decide +kernel)
def nF : Nat → Nat := fun t => match t with
  | 0 => 14
  | 1 => 8
  | 2 => 17
  | 3 => 10
  | 4 => 5
  | 5 => 5
  | 6 => 3
  | 7 => 5
  | 8 => 14
  | 9 => 10
  | 10 => 14
  | 11 => 9
  | 12 => 127
  | _ => 0
def tyC : Nat → Nat → FieldType := fun t => match t with
  | 0 => tyX0
  | 1 => tyX1
  | 2 => tyX2
  | 3 => tyX3
  | 4 => tyX4
  | 5 => tyX5
  | 6 => tyX6
  | 7 => tyX7
  | 8 => tyX8
  | 9 => tyX9
  | 10 => tyX10
  | 11 => tyX11
  | 12 => tyX12
  | _ => fun _ => .int
/-- what is known of class t: its row in vwCl, its words, its fields' types and names -/
def Cls (t : Nat) (C : String) (T : u_T) (N : Nat) : Prop := vwCl[t]? = some (C, T, N) ∧ nF t = N ∧ (∀ w ∈ u_ws C T N, w ∈ tb) ∧ (∀ k, k < N → parseFieldDescriptor (T k).2.2.1 = some (tyC t k)) ∧ (∀ a, a < N → ∀ b, b < N → a ≠ b → (T a).2.1 ≠ (T b).2.1)
theorem cls0 : Cls 0 RX0 TX0 14 := ⟨rfl, rfl, inT0, tyX0_ok, nmX0⟩
theorem cls1 : Cls 1 RX1 TX1 8 := ⟨rfl, rfl, inT1, tyX1_ok, nmX1⟩
theorem cls2 : Cls 2 RX2 TX2 17 := ⟨rfl, rfl, inT2, tyX2_ok, nmX2⟩
theorem cls3 : Cls 3 RX3 TX3 10 := ⟨rfl, rfl, inT3, tyX3_ok, nmX3⟩
theorem cls4 : Cls 4 RX4 TX4 5 := ⟨rfl, rfl, inT4, tyX4_ok, nmX4⟩
theorem cls5 : Cls 5 RX5 TX5 5 := ⟨rfl, rfl, inT5, tyX5_ok, nmX5⟩
theorem cls6 : Cls 6 RX6 TX6 3 := ⟨rfl, rfl, inT6, tyX6_ok, nmX6⟩
theorem cls7 : Cls 7 RX7 TX7 5 := ⟨rfl, rfl, inT7, tyX7_ok, nmX7⟩
theorem cls8 : Cls 8 RX8 TX8 14 := ⟨rfl, rfl, inT8, tyX8_ok, nmX8⟩
theorem cls9 : Cls 9 RX9 TX9 10 := ⟨rfl, rfl, inT9, tyX9_ok, nmX9⟩
theorem cls10 : Cls 10 RX10 TX10 14 := ⟨rfl, rfl, inT10, tyX10_ok, nmX10⟩
theorem cls11 : Cls 11 RX11 TX11 9 := ⟨rfl, rfl, inT11, tyX11_ok, nmX11⟩
theorem cls12 : Cls 12 RX12 TX12 127 := ⟨rfl, rfl, inT12, tyX12_ok, nmX12⟩
