-- ===== PART A: goes FIRST, ahead of the names: the tables' words, and 'selects' of the private methods out of them =====
/-- a private method of a class that the tables say can be made, by its rows of tables_1 -/
def lw_okq (q : MethodName × Nat) : Prop := (q.1.cls ≠ "java/lang/invoke/MethodHandle" ∧ q.1.cls ≠ "java/lang/invoke/VarHandle") ∧ Cond.instantiable q.1.cls q.2 ∈ tables_1 ∧ Cond.privateMethod q.1 ∈ tables_1 ∧ Cond.instanceMethod q.1 ∈ tables_1
theorem lw_p0 : lw_okq (⟨"RollHall", "tellsNone", "(II)Z"⟩, 12) := ⟨⟨by decide +kernel, by decide +kernel⟩, List.mem_of_getElem? (i := 21) (by decide +kernel), List.mem_of_getElem? (i := 410) (by decide +kernel), List.mem_of_getElem? (i := 411) (by decide +kernel)⟩
theorem lw_p1 : lw_okq (⟨"RollHall", "isAsTold", "(II)Z"⟩, 12) := ⟨⟨by decide +kernel, by decide +kernel⟩, List.mem_of_getElem? (i := 21) (by decide +kernel), List.mem_of_getElem? (i := 428) (by decide +kernel), List.mem_of_getElem? (i := 429) (by decide +kernel)⟩
theorem lw_p2 : lw_okq (⟨"RollHall$Seats", "halvesInside", "(I)I"⟩, 10) := ⟨⟨by decide +kernel, by decide +kernel⟩, List.mem_of_getElem? (i := 56) (by decide +kernel), List.mem_of_getElem? (i := 483) (by decide +kernel), List.mem_of_getElem? (i := 484) (by decide +kernel)⟩
theorem lw_p3 : lw_okq (⟨"RollHall$Tape", "next", "()I"⟩, 4) := ⟨⟨by decide +kernel, by decide +kernel⟩, List.mem_of_getElem? (i := 104) (by decide +kernel), List.mem_of_getElem? (i := 521) (by decide +kernel), List.mem_of_getElem? (i := 522) (by decide +kernel)⟩
theorem lw_p4 : lw_okq (⟨"RollHall$Tape", "readRest", "(Ljava/lang/String;I)V"⟩, 4) := ⟨⟨by decide +kernel, by decide +kernel⟩, List.mem_of_getElem? (i := 104) (by decide +kernel), List.mem_of_getElem? (i := 576) (by decide +kernel), List.mem_of_getElem? (i := 577) (by decide +kernel)⟩
theorem lw_p5 : lw_okq (⟨"RollHall$Tape", "readSign", "(C)V"⟩, 4) := ⟨⟨by decide +kernel, by decide +kernel⟩, List.mem_of_getElem? (i := 104) (by decide +kernel), List.mem_of_getElem? (i := 580) (by decide +kernel), List.mem_of_getElem? (i := 581) (by decide +kernel)⟩
theorem lw_p6 : lw_okq (⟨"RollHall$Rules", "readTest", "(LRollHall$Tape;)V"⟩, 9) := ⟨⟨by decide +kernel, by decide +kernel⟩, List.mem_of_getElem? (i := 124) (by decide +kernel), List.mem_of_getElem? (i := 601) (by decide +kernel), List.mem_of_getElem? (i := 602) (by decide +kernel)⟩
theorem lw_p7 : lw_okq (⟨"RollHall", "look", "()V"⟩, 12) := ⟨⟨by decide +kernel, by decide +kernel⟩, List.mem_of_getElem? (i := 21) (by decide +kernel), List.mem_of_getElem? (i := 637) (by decide +kernel), List.mem_of_getElem? (i := 638) (by decide +kernel)⟩
theorem lw_p8 : lw_okq (⟨"RollHall$Rules", "allHold", "(I[I)Z"⟩, 9) := ⟨⟨by decide +kernel, by decide +kernel⟩, List.mem_of_getElem? (i := 124) (by decide +kernel), List.mem_of_getElem? (i := 656) (by decide +kernel), List.mem_of_getElem? (i := 657) (by decide +kernel)⟩
theorem lw_p9 : lw_okq (⟨"RollHall$Rules", "holds", "(II)Z"⟩, 9) := ⟨⟨by decide +kernel, by decide +kernel⟩, List.mem_of_getElem? (i := 124) (by decide +kernel), List.mem_of_getElem? (i := 660) (by decide +kernel), List.mem_of_getElem? (i := 661) (by decide +kernel)⟩
theorem lw_p10 : lw_okq (⟨"RollHall", "tellsThing", "(II)Z"⟩, 12) := ⟨⟨by decide +kernel, by decide +kernel⟩, List.mem_of_getElem? (i := 21) (by decide +kernel), List.mem_of_getElem? (i := 668) (by decide +kernel), List.mem_of_getElem? (i := 669) (by decide +kernel)⟩
theorem lw_p11 : lw_okq (⟨"RollHall", "carry", "(II)V"⟩, 12) := ⟨⟨by decide +kernel, by decide +kernel⟩, List.mem_of_getElem? (i := 21) (by decide +kernel), List.mem_of_getElem? (i := 751) (by decide +kernel), List.mem_of_getElem? (i := 752) (by decide +kernel)⟩
theorem lw_p12 : lw_okq (⟨"RollHall", "standing", "(II)I"⟩, 12) := ⟨⟨by decide +kernel, by decide +kernel⟩, List.mem_of_getElem? (i := 21) (by decide +kernel), List.mem_of_getElem? (i := 755) (by decide +kernel), List.mem_of_getElem? (i := 756) (by decide +kernel)⟩
theorem lw_p13 : lw_okq (⟨"RollHall", "change", "(III)V"⟩, 12) := ⟨⟨by decide +kernel, by decide +kernel⟩, List.mem_of_getElem? (i := 21) (by decide +kernel), List.mem_of_getElem? (i := 759) (by decide +kernel), List.mem_of_getElem? (i := 760) (by decide +kernel)⟩
theorem lw_p14 : lw_okq (⟨"RollHall$Rulings", "forgetOldest", "()V"⟩, 4) := ⟨⟨by decide +kernel, by decide +kernel⟩, List.mem_of_getElem? (i := 190) (by decide +kernel), List.mem_of_getElem? (i := 767) (by decide +kernel), List.mem_of_getElem? (i := 768) (by decide +kernel)⟩
theorem lw_p15 : lw_okq (⟨"RollHall", "put", "(III)V"⟩, 12) := ⟨⟨by decide +kernel, by decide +kernel⟩, List.mem_of_getElem? (i := 21) (by decide +kernel), List.mem_of_getElem? (i := 774) (by decide +kernel), List.mem_of_getElem? (i := 775) (by decide +kernel)⟩
def lw_privs_1 : List (MethodName × Nat) := [(⟨"RollHall", "tellsNone", "(II)Z"⟩, 12), (⟨"RollHall", "isAsTold", "(II)Z"⟩, 12), (⟨"RollHall$Seats", "halvesInside", "(I)I"⟩, 10), (⟨"RollHall$Tape", "next", "()I"⟩, 4), (⟨"RollHall$Tape", "readRest", "(Ljava/lang/String;I)V"⟩, 4), (⟨"RollHall$Tape", "readSign", "(C)V"⟩, 4), (⟨"RollHall$Rules", "readTest", "(LRollHall$Tape;)V"⟩, 9), (⟨"RollHall", "look", "()V"⟩, 12), (⟨"RollHall$Rules", "allHold", "(I[I)Z"⟩, 9), (⟨"RollHall$Rules", "holds", "(II)Z"⟩, 9), (⟨"RollHall", "tellsThing", "(II)Z"⟩, 12), (⟨"RollHall", "carry", "(II)V"⟩, 12), (⟨"RollHall", "standing", "(II)I"⟩, 12), (⟨"RollHall", "change", "(III)V"⟩, 12), (⟨"RollHall$Rulings", "forgetOldest", "()V"⟩, 4), (⟨"RollHall", "put", "(III)V"⟩, 12)]
theorem lw_r1 : ∀ q ∈ lw_privs_1, lw_okq q := List.forall_mem_cons.mpr ⟨lw_p0, List.forall_mem_cons.mpr ⟨lw_p1, List.forall_mem_cons.mpr ⟨lw_p2, List.forall_mem_cons.mpr ⟨lw_p3, List.forall_mem_cons.mpr ⟨lw_p4, List.forall_mem_cons.mpr ⟨lw_p5, List.forall_mem_cons.mpr ⟨lw_p6, List.forall_mem_cons.mpr ⟨lw_p7, List.forall_mem_cons.mpr ⟨lw_p8, List.forall_mem_cons.mpr ⟨lw_p9, List.forall_mem_cons.mpr ⟨lw_p10, List.forall_mem_cons.mpr ⟨lw_p11, List.forall_mem_cons.mpr ⟨lw_p12, List.forall_mem_cons.mpr ⟨lw_p13, List.forall_mem_cons.mpr ⟨lw_p14, List.forall_mem_cons.mpr ⟨lw_p15, fun _ h => absurd h List.not_mem_nil⟩⟩⟩⟩⟩⟩⟩⟩⟩⟩⟩⟩⟩⟩⟩⟩
theorem lw_p16 : lw_okq (⟨"RollHall", "undo", "()V"⟩, 12) := ⟨⟨by decide +kernel, by decide +kernel⟩, List.mem_of_getElem? (i := 21) (by decide +kernel), List.mem_of_getElem? (i := 778) (by decide +kernel), List.mem_of_getElem? (i := 779) (by decide +kernel)⟩
theorem lw_p17 : lw_okq (⟨"RollHall$Ballots", "winner", "(LRollHall$Seats;LRollHall$Rules;[I[I)I"⟩, 7) := ⟨⟨by decide +kernel, by decide +kernel⟩, List.mem_of_getElem? (i := 210) (by decide +kernel), List.mem_of_getElem? (i := 827) (by decide +kernel), List.mem_of_getElem? (i := 828) (by decide +kernel)⟩
theorem lw_p18 : lw_okq (⟨"RollHall$Tally", "cast", "(ZIII)V"⟩, 7) := ⟨⟨by decide +kernel, by decide +kernel⟩, List.mem_of_getElem? (i := 216) (by decide +kernel), List.mem_of_getElem? (i := 839) (by decide +kernel), List.mem_of_getElem? (i := 840) (by decide +kernel)⟩
theorem lw_p19 : lw_okq (⟨"RollHall$Tally", "castUnit", "(I)V"⟩, 7) := ⟨⟨by decide +kernel, by decide +kernel⟩, List.mem_of_getElem? (i := 216) (by decide +kernel), List.mem_of_getElem? (i := 843) (by decide +kernel), List.mem_of_getElem? (i := 844) (by decide +kernel)⟩
theorem lw_p20 : lw_okq (⟨"RollHall$Ballots", "someStay", "()Z"⟩, 7) := ⟨⟨by decide +kernel, by decide +kernel⟩, List.mem_of_getElem? (i := 210) (by decide +kernel), List.mem_of_getElem? (i := 871) (by decide +kernel), List.mem_of_getElem? (i := 872) (by decide +kernel)⟩
theorem lw_p21 : lw_okq (⟨"RollHall$Ballots", "letLastGo", "()V"⟩, 7) := ⟨⟨by decide +kernel, by decide +kernel⟩, List.mem_of_getElem? (i := 210) (by decide +kernel), List.mem_of_getElem? (i := 875) (by decide +kernel), List.mem_of_getElem? (i := 876) (by decide +kernel)⟩
theorem lw_p22 : lw_okq (⟨"RollHall$Bargains", "votesOf", "(I)I"⟩, 4) := ⟨⟨by decide +kernel, by decide +kernel⟩, List.mem_of_getElem? (i := 278) (by decide +kernel), List.mem_of_getElem? (i := 941) (by decide +kernel), List.mem_of_getElem? (i := 942) (by decide +kernel)⟩
theorem lw_p23 : lw_okq (⟨"RollHall$Bargains", "givesMore", "(II)Z"⟩, 4) := ⟨⟨by decide +kernel, by decide +kernel⟩, List.mem_of_getElem? (i := 278) (by decide +kernel), List.mem_of_getElem? (i := 950) (by decide +kernel), List.mem_of_getElem? (i := 951) (by decide +kernel)⟩
theorem lw_p24 : lw_okq (⟨"RollHallModel", "isMeeting", "(I)Z"⟩, 59) := ⟨⟨by decide +kernel, by decide +kernel⟩, List.mem_of_getElem? (i := 1008) (by decide +kernel), List.mem_of_getElem? (i := 1205) (by decide +kernel), List.mem_of_getElem? (i := 1206) (by decide +kernel)⟩
theorem lw_p25 : lw_okq (⟨"RollHallModel", "isGood", "(I)Z"⟩, 59) := ⟨⟨by decide +kernel, by decide +kernel⟩, List.mem_of_getElem? (i := 1008) (by decide +kernel), List.mem_of_getElem? (i := 1219) (by decide +kernel), List.mem_of_getElem? (i := 1220) (by decide +kernel)⟩
theorem lw_p26 : lw_okq (⟨"RollHallModel", "isSeat", "(I)Z"⟩, 59) := ⟨⟨by decide +kernel, by decide +kernel⟩, List.mem_of_getElem? (i := 1008) (by decide +kernel), List.mem_of_getElem? (i := 1227) (by decide +kernel), List.mem_of_getElem? (i := 1228) (by decide +kernel)⟩
theorem lw_p27 : lw_okq (⟨"RollHallModel", "votes", "(I)Z"⟩, 59) := ⟨⟨by decide +kernel, by decide +kernel⟩, List.mem_of_getElem? (i := 1008) (by decide +kernel), List.mem_of_getElem? (i := 1253) (by decide +kernel), List.mem_of_getElem? (i := 1254) (by decide +kernel)⟩
theorem lw_p28 : lw_okq (⟨"RollHallModel", "hasRight", "(I)Z"⟩, 59) := ⟨⟨by decide +kernel, by decide +kernel⟩, List.mem_of_getElem? (i := 1008) (by decide +kernel), List.mem_of_getElem? (i := 1257) (by decide +kernel), List.mem_of_getElem? (i := 1258) (by decide +kernel)⟩
theorem lw_p29 : lw_okq (⟨"RollHallModel", "halvesOf", "(I)I"⟩, 59) := ⟨⟨by decide +kernel, by decide +kernel⟩, List.mem_of_getElem? (i := 1008) (by decide +kernel), List.mem_of_getElem? (i := 1261) (by decide +kernel), List.mem_of_getElem? (i := 1262) (by decide +kernel)⟩
theorem lw_p30 : lw_okq (⟨"RollHallModel", "read", "(I)V"⟩, 59) := ⟨⟨by decide +kernel, by decide +kernel⟩, List.mem_of_getElem? (i := 1008) (by decide +kernel), List.mem_of_getElem? (i := 1274) (by decide +kernel), List.mem_of_getElem? (i := 1275) (by decide +kernel)⟩
theorem lw_p31 : lw_okq (⟨"RollHallModel", "word", "(II)I"⟩, 59) := ⟨⟨by decide +kernel, by decide +kernel⟩, List.mem_of_getElem? (i := 1008) (by decide +kernel), List.mem_of_getElem? (i := 1278) (by decide +kernel), List.mem_of_getElem? (i := 1279) (by decide +kernel)⟩
def lw_privs_2 : List (MethodName × Nat) := [(⟨"RollHall", "undo", "()V"⟩, 12), (⟨"RollHall$Ballots", "winner", "(LRollHall$Seats;LRollHall$Rules;[I[I)I"⟩, 7), (⟨"RollHall$Tally", "cast", "(ZIII)V"⟩, 7), (⟨"RollHall$Tally", "castUnit", "(I)V"⟩, 7), (⟨"RollHall$Ballots", "someStay", "()Z"⟩, 7), (⟨"RollHall$Ballots", "letLastGo", "()V"⟩, 7), (⟨"RollHall$Bargains", "votesOf", "(I)I"⟩, 4), (⟨"RollHall$Bargains", "givesMore", "(II)Z"⟩, 4), (⟨"RollHallModel", "isMeeting", "(I)Z"⟩, 59), (⟨"RollHallModel", "isGood", "(I)Z"⟩, 59), (⟨"RollHallModel", "isSeat", "(I)Z"⟩, 59), (⟨"RollHallModel", "votes", "(I)Z"⟩, 59), (⟨"RollHallModel", "hasRight", "(I)Z"⟩, 59), (⟨"RollHallModel", "halvesOf", "(I)I"⟩, 59), (⟨"RollHallModel", "read", "(I)V"⟩, 59), (⟨"RollHallModel", "word", "(II)I"⟩, 59)]
theorem lw_r2 : ∀ q ∈ lw_privs_2, lw_okq q := List.forall_mem_cons.mpr ⟨lw_p16, List.forall_mem_cons.mpr ⟨lw_p17, List.forall_mem_cons.mpr ⟨lw_p18, List.forall_mem_cons.mpr ⟨lw_p19, List.forall_mem_cons.mpr ⟨lw_p20, List.forall_mem_cons.mpr ⟨lw_p21, List.forall_mem_cons.mpr ⟨lw_p22, List.forall_mem_cons.mpr ⟨lw_p23, List.forall_mem_cons.mpr ⟨lw_p24, List.forall_mem_cons.mpr ⟨lw_p25, List.forall_mem_cons.mpr ⟨lw_p26, List.forall_mem_cons.mpr ⟨lw_p27, List.forall_mem_cons.mpr ⟨lw_p28, List.forall_mem_cons.mpr ⟨lw_p29, List.forall_mem_cons.mpr ⟨lw_p30, List.forall_mem_cons.mpr ⟨lw_p31, fun _ h => absurd h List.not_mem_nil⟩⟩⟩⟩⟩⟩⟩⟩⟩⟩⟩⟩⟩⟩⟩⟩
theorem lw_p32 : lw_okq (⟨"RollHallModel", "expect", "(IJ)V"⟩, 59) := ⟨⟨by decide +kernel, by decide +kernel⟩, List.mem_of_getElem? (i := 1008) (by decide +kernel), List.mem_of_getElem? (i := 1283) (by decide +kernel), List.mem_of_getElem? (i := 1284) (by decide +kernel)⟩
theorem lw_p33 : lw_okq (⟨"RollHallModel", "letter", "()I"⟩, 59) := ⟨⟨by decide +kernel, by decide +kernel⟩, List.mem_of_getElem? (i := 1008) (by decide +kernel), List.mem_of_getElem? (i := 1287) (by decide +kernel), List.mem_of_getElem? (i := 1288) (by decide +kernel)⟩
theorem lw_p34 : lw_okq (⟨"RollHallModel", "digit", "(I)I"⟩, 59) := ⟨⟨by decide +kernel, by decide +kernel⟩, List.mem_of_getElem? (i := 1008) (by decide +kernel), List.mem_of_getElem? (i := 1292) (by decide +kernel), List.mem_of_getElem? (i := 1293) (by decide +kernel)⟩
theorem lw_p35 : lw_okq (⟨"RollHallModel", "readTest", "(I)V"⟩, 59) := ⟨⟨by decide +kernel, by decide +kernel⟩, List.mem_of_getElem? (i := 1008) (by decide +kernel), List.mem_of_getElem? (i := 1303) (by decide +kernel), List.mem_of_getElem? (i := 1304) (by decide +kernel)⟩
theorem lw_p36 : lw_okq (⟨"RollHallModel", "ruleFor", "(I)I"⟩, 59) := ⟨⟨by decide +kernel, by decide +kernel⟩, List.mem_of_getElem? (i := 1008) (by decide +kernel), List.mem_of_getElem? (i := 1312) (by decide +kernel), List.mem_of_getElem? (i := 1313) (by decide +kernel)⟩
theorem lw_p37 : lw_okq (⟨"RollHallModel", "holds", "(I)Z"⟩, 59) := ⟨⟨by decide +kernel, by decide +kernel⟩, List.mem_of_getElem? (i := 1008) (by decide +kernel), List.mem_of_getElem? (i := 1316) (by decide +kernel), List.mem_of_getElem? (i := 1317) (by decide +kernel)⟩
theorem lw_p38 : lw_okq (⟨"RollHallModel", "takenMany", "()I"⟩, 59) := ⟨⟨by decide +kernel, by decide +kernel⟩, List.mem_of_getElem? (i := 1008) (by decide +kernel), List.mem_of_getElem? (i := 1320) (by decide +kernel), List.mem_of_getElem? (i := 1321) (by decide +kernel)⟩
theorem lw_p39 : lw_okq (⟨"RollHallModel", "tells", "(II)Z"⟩, 59) := ⟨⟨by decide +kernel, by decide +kernel⟩, List.mem_of_getElem? (i := 1008) (by decide +kernel), List.mem_of_getElem? (i := 1328) (by decide +kernel), List.mem_of_getElem? (i := 1329) (by decide +kernel)⟩
theorem lw_p40 : lw_okq (⟨"RollHallModel", "halvesAll", "()I"⟩, 59) := ⟨⟨by decide +kernel, by decide +kernel⟩, List.mem_of_getElem? (i := 1008) (by decide +kernel), List.mem_of_getElem? (i := 1337) (by decide +kernel), List.mem_of_getElem? (i := 1338) (by decide +kernel)⟩
theorem lw_p41 : lw_okq (⟨"RollHallModel", "carry", "(II)V"⟩, 59) := ⟨⟨by decide +kernel, by decide +kernel⟩, List.mem_of_getElem? (i := 1008) (by decide +kernel), List.mem_of_getElem? (i := 1344) (by decide +kernel), List.mem_of_getElem? (i := 1345) (by decide +kernel)⟩
theorem lw_p42 : lw_okq (⟨"RollHallModel", "keep", "(III)V"⟩, 59) := ⟨⟨by decide +kernel, by decide +kernel⟩, List.mem_of_getElem? (i := 1008) (by decide +kernel), List.mem_of_getElem? (i := 1348) (by decide +kernel), List.mem_of_getElem? (i := 1349) (by decide +kernel)⟩
theorem lw_p43 : lw_okq (⟨"RollHallModel", "undo", "()V"⟩, 59) := ⟨⟨by decide +kernel, by decide +kernel⟩, List.mem_of_getElem? (i := 1008) (by decide +kernel), List.mem_of_getElem? (i := 1352) (by decide +kernel), List.mem_of_getElem? (i := 1353) (by decide +kernel)⟩
theorem lw_p44 : lw_okq (⟨"RollHallModel", "poll", "()I"⟩, 59) := ⟨⟨by decide +kernel, by decide +kernel⟩, List.mem_of_getElem? (i := 1008) (by decide +kernel), List.mem_of_getElem? (i := 1372) (by decide +kernel), List.mem_of_getElem? (i := 1373) (by decide +kernel)⟩
theorem lw_p45 : lw_okq (⟨"RollHallModel", "sayAll", "(I)V"⟩, 59) := ⟨⟨by decide +kernel, by decide +kernel⟩, List.mem_of_getElem? (i := 1008) (by decide +kernel), List.mem_of_getElem? (i := 1376) (by decide +kernel), List.mem_of_getElem? (i := 1377) (by decide +kernel)⟩
theorem lw_p46 : lw_okq (⟨"RollHallModel", "forWhom", "(I)I"⟩, 59) := ⟨⟨by decide +kernel, by decide +kernel⟩, List.mem_of_getElem? (i := 1008) (by decide +kernel), List.mem_of_getElem? (i := 1380) (by decide +kernel), List.mem_of_getElem? (i := 1381) (by decide +kernel)⟩
theorem lw_p47 : lw_okq (⟨"RollHallModel", "foreseen", "()I"⟩, 59) := ⟨⟨by decide +kernel, by decide +kernel⟩, List.mem_of_getElem? (i := 1008) (by decide +kernel), List.mem_of_getElem? (i := 1395) (by decide +kernel), List.mem_of_getElem? (i := 1396) (by decide +kernel)⟩
def lw_privs_3 : List (MethodName × Nat) := [(⟨"RollHallModel", "expect", "(IJ)V"⟩, 59), (⟨"RollHallModel", "letter", "()I"⟩, 59), (⟨"RollHallModel", "digit", "(I)I"⟩, 59), (⟨"RollHallModel", "readTest", "(I)V"⟩, 59), (⟨"RollHallModel", "ruleFor", "(I)I"⟩, 59), (⟨"RollHallModel", "holds", "(I)Z"⟩, 59), (⟨"RollHallModel", "takenMany", "()I"⟩, 59), (⟨"RollHallModel", "tells", "(II)Z"⟩, 59), (⟨"RollHallModel", "halvesAll", "()I"⟩, 59), (⟨"RollHallModel", "carry", "(II)V"⟩, 59), (⟨"RollHallModel", "keep", "(III)V"⟩, 59), (⟨"RollHallModel", "undo", "()V"⟩, 59), (⟨"RollHallModel", "poll", "()I"⟩, 59), (⟨"RollHallModel", "sayAll", "(I)V"⟩, 59), (⟨"RollHallModel", "forWhom", "(I)I"⟩, 59), (⟨"RollHallModel", "foreseen", "()I"⟩, 59)]
theorem lw_r3 : ∀ q ∈ lw_privs_3, lw_okq q := List.forall_mem_cons.mpr ⟨lw_p32, List.forall_mem_cons.mpr ⟨lw_p33, List.forall_mem_cons.mpr ⟨lw_p34, List.forall_mem_cons.mpr ⟨lw_p35, List.forall_mem_cons.mpr ⟨lw_p36, List.forall_mem_cons.mpr ⟨lw_p37, List.forall_mem_cons.mpr ⟨lw_p38, List.forall_mem_cons.mpr ⟨lw_p39, List.forall_mem_cons.mpr ⟨lw_p40, List.forall_mem_cons.mpr ⟨lw_p41, List.forall_mem_cons.mpr ⟨lw_p42, List.forall_mem_cons.mpr ⟨lw_p43, List.forall_mem_cons.mpr ⟨lw_p44, List.forall_mem_cons.mpr ⟨lw_p45, List.forall_mem_cons.mpr ⟨lw_p46, List.forall_mem_cons.mpr ⟨lw_p47, fun _ h => absurd h List.not_mem_nil⟩⟩⟩⟩⟩⟩⟩⟩⟩⟩⟩⟩⟩⟩⟩⟩
theorem lw_p48 : lw_okq (⟨"RollHallModel", "isOffer", "(I)Z"⟩, 59) := ⟨⟨by decide +kernel, by decide +kernel⟩, List.mem_of_getElem? (i := 1008) (by decide +kernel), List.mem_of_getElem? (i := 1423) (by decide +kernel), List.mem_of_getElem? (i := 1424) (by decide +kernel)⟩
theorem lw_p49 : lw_okq (⟨"RollHallModel", "wins", "(I)Z"⟩, 59) := ⟨⟨by decide +kernel, by decide +kernel⟩, List.mem_of_getElem? (i := 1008) (by decide +kernel), List.mem_of_getElem? (i := 1431) (by decide +kernel), List.mem_of_getElem? (i := 1432) (by decide +kernel)⟩
theorem lw_p50 : lw_okq (⟨"RollHallModel", "breakerOf", "(I)I"⟩, 59) := ⟨⟨by decide +kernel, by decide +kernel⟩, List.mem_of_getElem? (i := 1008) (by decide +kernel), List.mem_of_getElem? (i := 1435) (by decide +kernel), List.mem_of_getElem? (i := 1436) (by decide +kernel)⟩
theorem lw_p51 : lw_okq (⟨"RollHallModel", "isPlank", "(I)Z"⟩, 59) := ⟨⟨by decide +kernel, by decide +kernel⟩, List.mem_of_getElem? (i := 1008) (by decide +kernel), List.mem_of_getElem? (i := 1451) (by decide +kernel), List.mem_of_getElem? (i := 1452) (by decide +kernel)⟩
def lw_privs_4 : List (MethodName × Nat) := [(⟨"RollHallModel", "isOffer", "(I)Z"⟩, 59), (⟨"RollHallModel", "wins", "(I)Z"⟩, 59), (⟨"RollHallModel", "breakerOf", "(I)I"⟩, 59), (⟨"RollHallModel", "isPlank", "(I)Z"⟩, 59)]
theorem lw_r4 : ∀ q ∈ lw_privs_4, lw_okq q := List.forall_mem_cons.mpr ⟨lw_p48, List.forall_mem_cons.mpr ⟨lw_p49, List.forall_mem_cons.mpr ⟨lw_p50, List.forall_mem_cons.mpr ⟨lw_p51, fun _ h => absurd h List.not_mem_nil⟩⟩⟩⟩
def lw_privs : List (MethodName × Nat) := lw_privs_1 ++ (lw_privs_2 ++ (lw_privs_3 ++ (lw_privs_4)))
def lw_tbl : List Cond := k2_sels lw_privs ++ tables_1
theorem lw_privs_ok : ∀ q ∈ lw_privs, lw_okq q := by
  show ∀ q ∈ lw_privs_1 ++ (lw_privs_2 ++ (lw_privs_3 ++ (lw_privs_4))), lw_okq q
  exact List.forall_mem_append.mpr ⟨lw_r1, List.forall_mem_append.mpr ⟨lw_r2, List.forall_mem_append.mpr ⟨lw_r3, lw_r4⟩⟩⟩

def RX0 : String := "RollHall$Ballots"
def TX0 : u_T := fun k => match k with
  | 0 => ("RollHall$Ballots", "tally", "LRollHall$Tally;", true)
  | 1 => ("RollHall$Ballots", "told", "[I", true)
  | 2 => ("RollHall$Ballots", "released", "[I", true)
  | 3 => ("RollHall$Ballots", "latest", "[I", true)
  | 4 => ("RollHall$Ballots", "gone", "[I", true)
  | 5 => ("RollHall$Ballots", "held", "I", false)
  | _ => ("RollHall$Ballots", "ahead", "I", false)
def tyX0 : Nat → FieldType := fun k => match k with
  | 0 => .object "RollHall$Tally"
  | 1 => .array .int
  | 2 => .array .int
  | 3 => .array .int
  | 4 => .array .int
  | 5 => .int
  | _ => .int
abbrev wsX00 : List Cond := u_ws RX0 TX0 7
theorem nmX0 : ∀ a, a < 7 → ∀ b, b < 7 → a ≠ b → (TX0 a).2.1 ≠ (TX0 b).2.1 := by decide +kernel
theorem tyX0_ok : ∀ k, k < 7 → parseFieldDescriptor (TX0 k).2.2.1 = some (tyX0 k) := by decide +kernel
abbrev cX0_init : ByteArray := prog_2_method_1_code
def yX0_init : MethodName := ⟨RX0, "<init>", "()V"⟩
abbrev cX0_hold : ByteArray := prog_2_method_2_code
def yX0_hold : MethodName := ⟨RX0, "hold", "(LRollHall$Seats;LRollHall$Rules;[I)I"⟩
abbrev cX0_winner : ByteArray := prog_2_method_3_code
def yX0_winner : MethodName := ⟨RX0, "winner", "(LRollHall$Seats;LRollHall$Rules;[I[I)I"⟩
abbrev cX0_lookAhead : ByteArray := prog_2_method_4_code
def yX0_lookAhead : MethodName := ⟨RX0, "lookAhead", "(LRollHall$Seats;LRollHall$Rules;[I)I"⟩
abbrev cX0_someStay : ByteArray := prog_2_method_5_code
def yX0_someStay : MethodName := ⟨RX0, "someStay", "()Z"⟩
abbrev cX0_letLastGo : ByteArray := prog_2_method_6_code
def yX0_letLastGo : MethodName := ⟨RX0, "letLastGo", "()V"⟩
abbrev cX0_firstTurn : ByteArray := prog_2_method_7_code
def yX0_firstTurn : MethodName := ⟨RX0, "firstTurn", "(LRollHall$Seats;LRollHall$Rules;[I)I"⟩
def RX1 : String := "RollHall$Bargains"
def TX1 : u_T := fun k => match k with
  | 0 => ("RollHall$Bargains", "votes", "[I", true)
  | 1 => ("RollHall$Bargains", "set", "[I", true)
  | 2 => ("RollHall$Bargains", "worth", "[I", true)
  | _ => ("RollHall$Bargains", "size", "I", false)
def tyX1 : Nat → FieldType := fun k => match k with
  | 0 => .array .int
  | 1 => .array .int
  | 2 => .array .int
  | _ => .int
abbrev wsX10 : List Cond := u_ws RX1 TX1 4
theorem nmX1 : ∀ a, a < 4 → ∀ b, b < 4 → a ≠ b → (TX1 a).2.1 ≠ (TX1 b).2.1 := by decide +kernel
theorem tyX1_ok : ∀ k, k < 4 → parseFieldDescriptor (TX1 k).2.2.1 = some (tyX1 k) := by decide +kernel
abbrev cX1_init : ByteArray := prog_3_method_1_code
def yX1_init : MethodName := ⟨RX1, "<init>", "()V"⟩
abbrev cX1_has : ByteArray := prog_3_method_2_code
def yX1_has : MethodName := ⟨RX1, "has", "(I)Z"⟩
abbrev cX1_isFull : ByteArray := prog_3_method_3_code
def yX1_isFull : MethodName := ⟨RX1, "isFull", "()Z"⟩
abbrev cX1_add : ByteArray := prog_3_method_4_code
def yX1_add : MethodName := ⟨RX1, "add", "(I)I"⟩
abbrev cX1_isIn : ByteArray := prog_3_method_5_code
def yX1_isIn : MethodName := ⟨RX1, "isIn", "(II)Z"⟩
abbrev cX1_votesOf : ByteArray := prog_3_method_6_code
def yX1_votesOf : MethodName := ⟨RX1, "votesOf", "(I)I"⟩
abbrev cX1_wins : ByteArray := prog_3_method_7_code
def yX1_wins : MethodName := ⟨RX1, "wins", "(I)Z"⟩
abbrev cX1_breaker : ByteArray := prog_3_method_8_code
def yX1_breaker : MethodName := ⟨RX1, "breaker", "(I)I"⟩
abbrev cX1_givesMore : ByteArray := prog_3_method_9_code
def yX1_givesMore : MethodName := ⟨RX1, "givesMore", "(II)Z"⟩
def RX2 : String := "RollHall$Meetings"
def TX2 : u_T := fun k => match k with
  | 0 => ("RollHall$Meetings", "above", "[I", true)
  | 1 => ("RollHall$Meetings", "notice", "[I", true)
  | 2 => ("RollHall$Meetings", "roll", "[I", true)
  | 3 => ("RollHall$Meetings", "size", "I", false)
  | 4 => ("RollHall$Meetings", "days", "I", false)
  | _ => ("RollHall$Meetings", "quorum", "I", false)
def tyX2 : Nat → FieldType := fun k => match k with
  | 0 => .array .int
  | 1 => .array .int
  | 2 => .array .int
  | 3 => .int
  | 4 => .int
  | _ => .int
abbrev wsX20 : List Cond := u_ws RX2 TX2 6
theorem nmX2 : ∀ a, a < 6 → ∀ b, b < 6 → a ≠ b → (TX2 a).2.1 ≠ (TX2 b).2.1 := by decide +kernel
theorem tyX2_ok : ∀ k, k < 6 → parseFieldDescriptor (TX2 k).2.2.1 = some (tyX2 k) := by decide +kernel
abbrev cX2_init : ByteArray := prog_4_method_1_code
def yX2_init : MethodName := ⟨RX2, "<init>", "()V"⟩
abbrev cX2_has : ByteArray := prog_4_method_2_code
def yX2_has : MethodName := ⟨RX2, "has", "(I)Z"⟩
abbrev cX2_isFull : ByteArray := prog_4_method_3_code
def yX2_isFull : MethodName := ⟨RX2, "isFull", "()Z"⟩
abbrev cX2_add : ByteArray := prog_4_method_4_code
def yX2_add : MethodName := ⟨RX2, "add", "(III)I"⟩
abbrev cX2_changeDays : ByteArray := prog_4_method_5_code
def yX2_changeDays : MethodName := ⟨RX2, "changeDays", "(I)I"⟩
abbrev cX2_changeQuorum : ByteArray := prog_4_method_6_code
def yX2_changeQuorum : MethodName := ⟨RX2, "changeQuorum", "(I)I"⟩
abbrev cX2_isGood : ByteArray := prog_4_method_7_code
def yX2_isGood : MethodName := ⟨RX2, "isGood", "(I)Z"⟩
def RX3 : String := "RollHall$Pile"
def TX3 : u_T := fun k => match k with
  | 0 => ("RollHall$Pile", "key", "[I", true)
  | 1 => ("RollHall$Pile", "number", "[I", true)
  | 2 => ("RollHall$Pile", "rank", "[I", true)
  | 3 => ("RollHall$Pile", "need", "[I", true)
  | 4 => ("RollHall$Pile", "parts", "[I", true)
  | _ => ("RollHall$Pile", "open", "I", false)
def tyX3 : Nat → FieldType := fun k => match k with
  | 0 => .array .int
  | 1 => .array .int
  | 2 => .array .int
  | 3 => .array .int
  | 4 => .array .int
  | _ => .int
abbrev wsX30 : List Cond := u_ws RX3 TX3 6
theorem nmX3 : ∀ a, a < 6 → ∀ b, b < 6 → a ≠ b → (TX3 a).2.1 ≠ (TX3 b).2.1 := by decide +kernel
theorem tyX3_ok : ∀ k, k < 6 → parseFieldDescriptor (TX3 k).2.2.1 = some (tyX3 k) := by decide +kernel
abbrev cX3_init : ByteArray := prog_5_method_1_code
def yX3_init : MethodName := ⟨RX3, "<init>", "()V"⟩
abbrev cX3_has : ByteArray := prog_5_method_2_code
def yX3_has : MethodName := ⟨RX3, "has", "(I)Z"⟩
abbrev cX3_isEmpty : ByteArray := prog_5_method_3_code
def yX3_isEmpty : MethodName := ⟨RX3, "isEmpty", "()Z"⟩
abbrev cX3_isFull : ByteArray := prog_5_method_4_code
def yX3_isFull : MethodName := ⟨RX3, "isFull", "()Z"⟩
abbrev cX3_lies : ByteArray := prog_5_method_5_code
def yX3_lies : MethodName := ⟨RX3, "lies", "(I)Z"⟩
abbrev cX3_add : ByteArray := prog_5_method_6_code
def yX3_add : MethodName := ⟨RX3, "add", "(IIIII)I"⟩
abbrev cX3_drop : ByteArray := prog_5_method_7_code
def yX3_drop : MethodName := ⟨RX3, "drop", "()V"⟩
abbrev cX3_clear : ByteArray := prog_5_method_8_code
def yX3_clear : MethodName := ⟨RX3, "clear", "()V"⟩
abbrev cX3_droppedKey : ByteArray := prog_5_method_9_code
def yX3_droppedKey : MethodName := ⟨RX3, "droppedKey", "()I"⟩
abbrev cX3_droppedNumber : ByteArray := prog_5_method_10_code
def yX3_droppedNumber : MethodName := ⟨RX3, "droppedNumber", "()I"⟩
abbrev cX3_droppedNeed : ByteArray := prog_5_method_11_code
def yX3_droppedNeed : MethodName := ⟨RX3, "droppedNeed", "()I"⟩
abbrev cX3_droppedParts : ByteArray := prog_5_method_12_code
def yX3_droppedParts : MethodName := ⟨RX3, "droppedParts", "()I"⟩
def RX4 : String := "RollHall$Planks"
def TX4 : u_T := fun k => match k with
  | 0 => ("RollHall$Planks", "words", "[I", true)
  | 1 => ("RollHall$Planks", "length", "[I", true)
  | 2 => ("RollHall$Planks", "taken", "[I", true)
  | _ => ("RollHall$Planks", "size", "I", false)
def tyX4 : Nat → FieldType := fun k => match k with
  | 0 => .array .int
  | 1 => .array .int
  | 2 => .array .int
  | _ => .int
abbrev wsX40 : List Cond := u_ws RX4 TX4 4
theorem nmX4 : ∀ a, a < 4 → ∀ b, b < 4 → a ≠ b → (TX4 a).2.1 ≠ (TX4 b).2.1 := by decide +kernel
theorem tyX4_ok : ∀ k, k < 4 → parseFieldDescriptor (TX4 k).2.2.1 = some (tyX4 k) := by decide +kernel
abbrev cX4_init : ByteArray := prog_6_method_1_code
def yX4_init : MethodName := ⟨RX4, "<init>", "()V"⟩
abbrev cX4_has : ByteArray := prog_6_method_2_code
def yX4_has : MethodName := ⟨RX4, "has", "(I)Z"⟩
abbrev cX4_isFull : ByteArray := prog_6_method_3_code
def yX4_isFull : MethodName := ⟨RX4, "isFull", "()Z"⟩
abbrev cX4_add : ByteArray := prog_6_method_4_code
def yX4_add : MethodName := ⟨RX4, "add", "()I"⟩
abbrev cX4_insert : ByteArray := prog_6_method_5_code
def yX4_insert : MethodName := ⟨RX4, "insert", "(III)I"⟩
abbrev cX4_cut : ByteArray := prog_6_method_6_code
def yX4_cut : MethodName := ⟨RX4, "cut", "(III)I"⟩
abbrev cX4_countTaken : ByteArray := prog_6_method_7_code
def yX4_countTaken : MethodName := ⟨RX4, "countTaken", "()I"⟩
abbrev cX4_wordsTaken : ByteArray := prog_6_method_8_code
def yX4_wordsTaken : MethodName := ⟨RX4, "wordsTaken", "()I"⟩
abbrev cX4_wordTaken : ByteArray := prog_6_method_9_code
def yX4_wordTaken : MethodName := ⟨RX4, "wordTaken", "(I)I"⟩
def RX5 : String := "RollHall$Rules"
def TX5 : u_T := fun k => match k with
  | 0 => ("RollHall$Rules", "key", "[I", true)
  | 1 => ("RollHall$Rules", "rank", "[I", true)
  | 2 => ("RollHall$Rules", "need", "[I", true)
  | 3 => ("RollHall$Rules", "parts", "[I", true)
  | 4 => ("RollHall$Rules", "tests", "[I", true)
  | 5 => ("RollHall$Rules", "field", "[I", true)
  | 6 => ("RollHall$Rules", "sign", "[I", true)
  | 7 => ("RollHall$Rules", "number", "[I", true)
  | _ => ("RollHall$Rules", "size", "I", false)
def tyX5 : Nat → FieldType := fun k => match k with
  | 0 => .array .int
  | 1 => .array .int
  | 2 => .array .int
  | 3 => .array .int
  | 4 => .array .int
  | 5 => .array .int
  | 6 => .array .int
  | 7 => .array .int
  | _ => .int
abbrev wsX50 : List Cond := u_ws RX5 TX5 9
theorem nmX5 : ∀ a, a < 9 → ∀ b, b < 9 → a ≠ b → (TX5 a).2.1 ≠ (TX5 b).2.1 := by decide +kernel
theorem tyX5_ok : ∀ k, k < 9 → parseFieldDescriptor (TX5 k).2.2.1 = some (tyX5 k) := by decide +kernel
abbrev cX5_init : ByteArray := prog_7_method_1_code
def yX5_init : MethodName := ⟨RX5, "<init>", "()V"⟩
abbrev cX5_isFull : ByteArray := prog_7_method_2_code
def yX5_isFull : MethodName := ⟨RX5, "isFull", "()Z"⟩
abbrev cX5_read : ByteArray := prog_7_method_3_code
def yX5_read : MethodName := ⟨RX5, "read", "(LRollHall$Tape;)Z"⟩
abbrev cX5_readTest : ByteArray := prog_7_method_4_code
def yX5_readTest : MethodName := ⟨RX5, "readTest", "(LRollHall$Tape;)V"⟩
abbrev cX5_keep : ByteArray := prog_7_method_5_code
def yX5_keep : MethodName := ⟨RX5, "keep", "()I"⟩
abbrev cX5_inForce : ByteArray := prog_7_method_6_code
def yX5_inForce : MethodName := ⟨RX5, "inForce", "(I[I)I"⟩
abbrev cX5_allHold : ByteArray := prog_7_method_7_code
def yX5_allHold : MethodName := ⟨RX5, "allHold", "(I[I)Z"⟩
abbrev cX5_holds : ByteArray := prog_7_method_8_code
def yX5_holds : MethodName := ⟨RX5, "holds", "(II)Z"⟩
abbrev cX5_rankOf : ByteArray := prog_7_method_9_code
def yX5_rankOf : MethodName := ⟨RX5, "rankOf", "(I)I"⟩
abbrev cX5_needOf : ByteArray := prog_7_method_10_code
def yX5_needOf : MethodName := ⟨RX5, "needOf", "(I)I"⟩
abbrev cX5_partsOf : ByteArray := prog_7_method_11_code
def yX5_partsOf : MethodName := ⟨RX5, "partsOf", "(I)I"⟩
def RX6 : String := "RollHall$Rulings"
def TX6 : u_T := fun k => match k with
  | 0 => ("RollHall$Rulings", "key", "[I", true)
  | 1 => ("RollHall$Rulings", "thing", "[I", true)
  | 2 => ("RollHall$Rulings", "before", "[I", true)
  | _ => ("RollHall$Rulings", "size", "I", false)
def tyX6 : Nat → FieldType := fun k => match k with
  | 0 => .array .int
  | 1 => .array .int
  | 2 => .array .int
  | _ => .int
abbrev wsX60 : List Cond := u_ws RX6 TX6 4
theorem nmX6 : ∀ a, a < 4 → ∀ b, b < 4 → a ≠ b → (TX6 a).2.1 ≠ (TX6 b).2.1 := by decide +kernel
theorem tyX6_ok : ∀ k, k < 4 → parseFieldDescriptor (TX6 k).2.2.1 = some (tyX6 k) := by decide +kernel
abbrev cX6_init : ByteArray := prog_8_method_1_code
def yX6_init : MethodName := ⟨RX6, "<init>", "()V"⟩
abbrev cX6_keep : ByteArray := prog_8_method_2_code
def yX6_keep : MethodName := ⟨RX6, "keep", "(III)V"⟩
abbrev cX6_forgetOldest : ByteArray := prog_8_method_3_code
def yX6_forgetOldest : MethodName := ⟨RX6, "forgetOldest", "()V"⟩
abbrev cX6_drop : ByteArray := prog_8_method_4_code
def yX6_drop : MethodName := ⟨RX6, "drop", "()V"⟩
abbrev cX6_droppedKey : ByteArray := prog_8_method_5_code
def yX6_droppedKey : MethodName := ⟨RX6, "droppedKey", "()I"⟩
abbrev cX6_droppedThing : ByteArray := prog_8_method_6_code
def yX6_droppedThing : MethodName := ⟨RX6, "droppedThing", "()I"⟩
abbrev cX6_droppedBefore : ByteArray := prog_8_method_7_code
def yX6_droppedBefore : MethodName := ⟨RX6, "droppedBefore", "()I"⟩
def RX7 : String := "RollHall$Seats"
def TX7 : u_T := fun k => match k with
  | 0 => ("RollHall$Seats", "kind", "[I", true)
  | 1 => ("RollHall$Seats", "state", "[I", true)
  | 2 => ("RollHall$Seats", "meeting", "[I", true)
  | 3 => ("RollHall$Seats", "extra", "[I", true)
  | 4 => ("RollHall$Seats", "boundTill", "[I", true)
  | 5 => ("RollHall$Seats", "out", "[I", true)
  | 6 => ("RollHall$Seats", "seated", "[I", true)
  | 7 => ("RollHall$Seats", "liked", "[I", true)
  | 8 => ("RollHall$Seats", "likes", "[I", true)
  | _ => ("RollHall$Seats", "size", "I", false)
def tyX7 : Nat → FieldType := fun k => match k with
  | 0 => .array .int
  | 1 => .array .int
  | 2 => .array .int
  | 3 => .array .int
  | 4 => .array .int
  | 5 => .array .int
  | 6 => .array .int
  | 7 => .array .int
  | 8 => .array .int
  | _ => .int
abbrev wsX70 : List Cond := u_ws RX7 TX7 10
theorem nmX7 : ∀ a, a < 10 → ∀ b, b < 10 → a ≠ b → (TX7 a).2.1 ≠ (TX7 b).2.1 := by decide +kernel
theorem tyX7_ok : ∀ k, k < 10 → parseFieldDescriptor (TX7 k).2.2.1 = some (tyX7 k) := by decide +kernel
abbrev cX7_init : ByteArray := prog_9_method_1_code
def yX7_init : MethodName := ⟨RX7, "<init>", "()V"⟩
abbrev cX7_ballotsOf : ByteArray := prog_9_method_2_code
def yX7_ballotsOf : MethodName := ⟨RX7, "ballotsOf", "(I)I"⟩
abbrev cX7_nameOf : ByteArray := prog_9_method_3_code
def yX7_nameOf : MethodName := ⟨RX7, "nameOf", "(I)I"⟩
abbrev cX7_has : ByteArray := prog_9_method_4_code
def yX7_has : MethodName := ⟨RX7, "has", "(I)Z"⟩
abbrev cX7_isFull : ByteArray := prog_9_method_5_code
def yX7_isFull : MethodName := ⟨RX7, "isFull", "()Z"⟩
abbrev cX7_isRival : ByteArray := prog_9_method_6_code
def yX7_isRival : MethodName := ⟨RX7, "isRival", "(I)Z"⟩
abbrev cX7_add : ByteArray := prog_9_method_7_code
def yX7_add : MethodName := ⟨RX7, "add", "(IIII)I"⟩
abbrev cX7_hasLike : ByteArray := prog_9_method_8_code
def yX7_hasLike : MethodName := ⟨RX7, "hasLike", "(II)Z"⟩
abbrev cX7_addLike : ByteArray := prog_9_method_9_code
def yX7_addLike : MethodName := ⟨RX7, "addLike", "(II)I"⟩
abbrev cX7_halves : ByteArray := prog_9_method_10_code
def yX7_halves : MethodName := ⟨RX7, "halves", "(I)I"⟩
abbrev cX7_halvesInside : ByteArray := prog_9_method_11_code
def yX7_halvesInside : MethodName := ⟨RX7, "halvesInside", "(I)I"⟩
abbrev cX7_allHalves : ByteArray := prog_9_method_12_code
def yX7_allHalves : MethodName := ⟨RX7, "allHalves", "()I"⟩
abbrev cX7_halvesOf : ByteArray := prog_9_method_13_code
def yX7_halvesOf : MethodName := ⟨RX7, "halvesOf", "(I)I"⟩
abbrev cX7_hasBitOfNone : ByteArray := prog_9_method_14_code
def yX7_hasBitOfNone : MethodName := ⟨RX7, "hasBitOfNone", "(I)Z"⟩
abbrev cX7_choice : ByteArray := prog_9_method_15_code
def yX7_choice : MethodName := ⟨RX7, "choice", "(II[I)I"⟩
def RX8 : String := "RollHall$Tally"
def TX8 : u_T := fun k => match k with
  | 0 => ("RollHall$Tally", "halves", "[I", true)
  | 1 => ("RollHall$Tally", "unit", "[I", true)
  | 2 => ("RollHall$Tally", "unitAll", "[I", true)
  | 3 => ("RollHall$Tally", "stateAll", "[I", true)
  | 4 => ("RollHall$Tally", "got", "[I", true)
  | 5 => ("RollHall$Tally", "all", "I", false)
  | _ => ("RollHall$Tally", "voting", "I", false)
def tyX8 : Nat → FieldType := fun k => match k with
  | 0 => .array .int
  | 1 => .array .int
  | 2 => .array .int
  | 3 => .array .int
  | 4 => .array .int
  | 5 => .int
  | _ => .int
abbrev wsX80 : List Cond := u_ws RX8 TX8 7
theorem nmX8 : ∀ a, a < 7 → ∀ b, b < 7 → a ≠ b → (TX8 a).2.1 ≠ (TX8 b).2.1 := by decide +kernel
theorem tyX8_ok : ∀ k, k < 7 → parseFieldDescriptor (TX8 k).2.2.1 = some (tyX8 k) := by decide +kernel
abbrev cX8_init : ByteArray := prog_10_method_1_code
def yX8_init : MethodName := ⟨RX8, "<init>", "()V"⟩
abbrev cX8_weigh : ByteArray := prog_10_method_2_code
def yX8_weigh : MethodName := ⟨RX8, "weigh", "(LRollHall$Seats;)V"⟩
abbrev cX8_hasVoters : ByteArray := prog_10_method_3_code
def yX8_hasVoters : MethodName := ⟨RX8, "hasVoters", "(I)Z"⟩
abbrev cX8_take : ByteArray := prog_10_method_4_code
def yX8_take : MethodName := ⟨RX8, "take", "(LRollHall$Seats;I[I[I)V"⟩
abbrev cX8_cast : ByteArray := prog_10_method_5_code
def yX8_cast : MethodName := ⟨RX8, "cast", "(ZIII)V"⟩
abbrev cX8_castUnit : ByteArray := prog_10_method_6_code
def yX8_castUnit : MethodName := ⟨RX8, "castUnit", "(I)V"⟩
abbrev cX8_leader : ByteArray := prog_10_method_7_code
def yX8_leader : MethodName := ⟨RX8, "leader", "()I"⟩
abbrev cX8_most : ByteArray := prog_10_method_8_code
def yX8_most : MethodName := ⟨RX8, "most", "([II)I"⟩
abbrev cX8_last : ByteArray := prog_10_method_9_code
def yX8_last : MethodName := ⟨RX8, "last", "([I)I"⟩
def RX9 : String := "RollHall$Tape"
def TX9 : u_T := fun k => match k with
  | 0 => ("RollHall$Tape", "bytes", "[I", true)
  | 1 => ("RollHall$Tape", "size", "I", false)
  | 2 => ("RollHall$Tape", "at", "I", false)
  | _ => ("RollHall$Tape", "faulty", "Z", false)
def tyX9 : Nat → FieldType := fun k => match k with
  | 0 => .array .int
  | 1 => .int
  | 2 => .int
  | _ => .boolean
abbrev wsX90 : List Cond := u_ws RX9 TX9 4
theorem nmX9 : ∀ a, a < 4 → ∀ b, b < 4 → a ≠ b → (TX9 a).2.1 ≠ (TX9 b).2.1 := by decide +kernel
theorem tyX9_ok : ∀ k, k < 4 → parseFieldDescriptor (TX9 k).2.2.1 = some (tyX9 k) := by decide +kernel
abbrev cX9_init : ByteArray := prog_11_method_1_code
def yX9_init : MethodName := ⟨RX9, "<init>", "()V"⟩
abbrev cX9_hasRoom : ByteArray := prog_11_method_2_code
def yX9_hasRoom : MethodName := ⟨RX9, "hasRoom", "(I)Z"⟩
abbrev cX9_append : ByteArray := prog_11_method_3_code
def yX9_append : MethodName := ⟨RX9, "append", "(JI)I"⟩
abbrev cX9_clear : ByteArray := prog_11_method_4_code
def yX9_clear : MethodName := ⟨RX9, "clear", "()V"⟩
abbrev cX9_rewind : ByteArray := prog_11_method_5_code
def yX9_rewind : MethodName := ⟨RX9, "rewind", "()V"⟩
abbrev cX9_fault : ByteArray := prog_11_method_6_code
def yX9_fault : MethodName := ⟨RX9, "fault", "()I"⟩
abbrev cX9_goesOn : ByteArray := prog_11_method_7_code
def yX9_goesOn : MethodName := ⟨RX9, "goesOn", "()Z"⟩
abbrev cX9_isReadWhole : ByteArray := prog_11_method_8_code
def yX9_isReadWhole : MethodName := ⟨RX9, "isReadWhole", "()Z"⟩
abbrev cX9_next : ByteArray := prog_11_method_9_code
def yX9_next : MethodName := ⟨RX9, "next", "()I"⟩
abbrev cX9_readSign : ByteArray := prog_11_method_10_code
def yX9_readSign : MethodName := ⟨RX9, "readSign", "(C)V"⟩
abbrev cX9_readText : ByteArray := prog_11_method_11_code
def yX9_readText : MethodName := ⟨RX9, "readText", "(Ljava/lang/String;)V"⟩
abbrev cX9_readWord : ByteArray := prog_11_method_12_code
def yX9_readWord : MethodName := ⟨RX9, "readWord", "(Ljava/lang/String;)I"⟩
abbrev cX9_beginsWord : ByteArray := prog_11_method_13_code
def yX9_beginsWord : MethodName := ⟨RX9, "beginsWord", "(Ljava/lang/String;I)Z"⟩
abbrev cX9_readRest : ByteArray := prog_11_method_14_code
def yX9_readRest : MethodName := ⟨RX9, "readRest", "(Ljava/lang/String;I)V"⟩
abbrev cX9_readDigit : ByteArray := prog_11_method_15_code
def yX9_readDigit : MethodName := ⟨RX9, "readDigit", "(I)I"⟩
abbrev cX9_readNumber : ByteArray := prog_11_method_16_code
def yX9_readNumber : MethodName := ⟨RX9, "readNumber", "()I"⟩
def RX10 : String := "RollHall"
def TX10 : u_T := fun k => match k with
  | 0 => ("RollHall", "meetings", "LRollHall$Meetings;", true)
  | 1 => ("RollHall", "seats", "LRollHall$Seats;", true)
  | 2 => ("RollHall", "tape", "LRollHall$Tape;", true)
  | 3 => ("RollHall", "rules", "LRollHall$Rules;", true)
  | 4 => ("RollHall", "pile", "LRollHall$Pile;", true)
  | 5 => ("RollHall", "rulings", "LRollHall$Rulings;", true)
  | 6 => ("RollHall", "ballots", "LRollHall$Ballots;", true)
  | 7 => ("RollHall", "bargains", "LRollHall$Bargains;", true)
  | 8 => ("RollHall", "planks", "LRollHall$Planks;", true)
  | 9 => ("RollHall", "now", "[I", true)
  | 10 => ("RollHall", "over", "Z", false)
  | _ => ("RollHall", "nominee", "I", false)
def tyX10 : Nat → FieldType := fun k => match k with
  | 0 => .object "RollHall$Meetings"
  | 1 => .object "RollHall$Seats"
  | 2 => .object "RollHall$Tape"
  | 3 => .object "RollHall$Rules"
  | 4 => .object "RollHall$Pile"
  | 5 => .object "RollHall$Rulings"
  | 6 => .object "RollHall$Ballots"
  | 7 => .object "RollHall$Bargains"
  | 8 => .object "RollHall$Planks"
  | 9 => .array .int
  | 10 => .boolean
  | _ => .int
abbrev wsX100 : List Cond := u_ws RX10 TX10 12
theorem nmX10 : ∀ a, a < 12 → ∀ b, b < 12 → a ≠ b → (TX10 a).2.1 ≠ (TX10 b).2.1 := by decide +kernel
theorem tyX10_ok : ∀ k, k < 12 → parseFieldDescriptor (TX10 k).2.2.1 = some (tyX10 k) := by decide +kernel
abbrev cX10_init : ByteArray := prog_1_method_1_code
def yX10_init : MethodName := ⟨RX10, "<init>", "()V"⟩
abbrev cX10_meeting : ByteArray := prog_1_method_2_code
def yX10_meeting : MethodName := ⟨RX10, "meeting", "(IIII)I"⟩
abbrev cX10_law : ByteArray := prog_1_method_3_code
def yX10_law : MethodName := ⟨RX10, "law", "(II)I"⟩
abbrev cX10_good : ByteArray := prog_1_method_4_code
def yX10_good : MethodName := ⟨RX10, "good", "(I)I"⟩
abbrev cX10_seat : ByteArray := prog_1_method_5_code
def yX10_seat : MethodName := ⟨RX10, "seat", "(IIII)I"⟩
abbrev cX10_out : ByteArray := prog_1_method_6_code
def yX10_out : MethodName := ⟨RX10, "out", "(II)I"⟩
abbrev cX10_like : ByteArray := prog_1_method_7_code
def yX10_like : MethodName := ⟨RX10, "like", "(II)I"⟩
abbrev cX10_unlike : ByteArray := prog_1_method_8_code
def yX10_unlike : MethodName := ⟨RX10, "unlike", "(I)I"⟩
abbrev cX10_credential : ByteArray := prog_1_method_9_code
def yX10_credential : MethodName := ⟨RX10, "credential", "(I)I"⟩
abbrev cX10_about : ByteArray := prog_1_method_10_code
def yX10_about : MethodName := ⟨RX10, "about", "(II)I"⟩
abbrev cX10_feed : ByteArray := prog_1_method_11_code
def yX10_feed : MethodName := ⟨RX10, "feed", "(JI)I"⟩
abbrev cX10_rule : ByteArray := prog_1_method_12_code
def yX10_rule : MethodName := ⟨RX10, "rule", "()I"⟩
abbrev cX10_force : ByteArray := prog_1_method_13_code
def yX10_force : MethodName := ⟨RX10, "force", "(I)I"⟩
abbrev cX10_move : ByteArray := prog_1_method_14_code
def yX10_move : MethodName := ⟨RX10, "move", "(II)I"⟩
abbrev cX10_vote : ByteArray := prog_1_method_15_code
def yX10_vote : MethodName := ⟨RX10, "vote", "(I)I"⟩
abbrev cX10_motion : ByteArray := prog_1_method_16_code
def yX10_motion : MethodName := ⟨RX10, "motion", "(II)I"⟩
abbrev cX10_bind : ByteArray := prog_1_method_17_code
def yX10_bind : MethodName := ⟨RX10, "bind", "(II)I"⟩
abbrev cX10_release : ByteArray := prog_1_method_18_code
def yX10_release : MethodName := ⟨RX10, "release", "(II)I"⟩
abbrev cX10_ballot : ByteArray := prog_1_method_19_code
def yX10_ballot : MethodName := ⟨RX10, "ballot", "()I"⟩
abbrev cX10_had : ByteArray := prog_1_method_20_code
def yX10_had : MethodName := ⟨RX10, "had", "(I)I"⟩
abbrev cX10_foresee : ByteArray := prog_1_method_21_code
def yX10_foresee : MethodName := ⟨RX10, "foresee", "()I"⟩
abbrev cX10_needs : ByteArray := prog_1_method_22_code
def yX10_needs : MethodName := ⟨RX10, "needs", "()I"⟩
abbrev cX10_turned : ByteArray := prog_1_method_23_code
def yX10_turned : MethodName := ⟨RX10, "turned", "()I"⟩
abbrev cX10_group : ByteArray := prog_1_method_24_code
def yX10_group : MethodName := ⟨RX10, "group", "(II)I"⟩
abbrev cX10_offer : ByteArray := prog_1_method_25_code
def yX10_offer : MethodName := ⟨RX10, "offer", "(I)I"⟩
abbrev cX10_gets : ByteArray := prog_1_method_26_code
def yX10_gets : MethodName := ⟨RX10, "gets", "(III)I"⟩
abbrev cX10_bargain : ByteArray := prog_1_method_27_code
def yX10_bargain : MethodName := ⟨RX10, "bargain", "(II)I"⟩
abbrev cX10_breaks : ByteArray := prog_1_method_28_code
def yX10_breaks : MethodName := ⟨RX10, "breaks", "(I)I"⟩
abbrev cX10_plank : ByteArray := prog_1_method_29_code
def yX10_plank : MethodName := ⟨RX10, "plank", "()I"⟩
abbrev cX10_amend : ByteArray := prog_1_method_30_code
def yX10_amend : MethodName := ⟨RX10, "amend", "(III)I"⟩
abbrev cX10_strike : ByteArray := prog_1_method_31_code
def yX10_strike : MethodName := ⟨RX10, "strike", "(III)I"⟩
abbrev cX10_platform : ByteArray := prog_1_method_32_code
def yX10_platform : MethodName := ⟨RX10, "platform", "(I)I"⟩
abbrev cX10_taken : ByteArray := prog_1_method_33_code
def yX10_taken : MethodName := ⟨RX10, "taken", "(I)I"⟩
abbrev cX10_count : ByteArray := prog_1_method_34_code
def yX10_count : MethodName := ⟨RX10, "count", "(I)I"⟩
abbrev cX10_within : ByteArray := prog_1_method_35_code
def yX10_within : MethodName := ⟨RX10, "within", "(III)Z"⟩
abbrev cX10_isState : ByteArray := prog_1_method_36_code
def yX10_isState : MethodName := ⟨RX10, "isState", "(I)Z"⟩
abbrev cX10_isName : ByteArray := prog_1_method_37_code
def yX10_isName : MethodName := ⟨RX10, "isName", "(I)Z"⟩
abbrev cX10_isKey : ByteArray := prog_1_method_38_code
def yX10_isKey : MethodName := ⟨RX10, "isKey", "(I)Z"⟩
abbrev cX10_isGroup : ByteArray := prog_1_method_39_code
def yX10_isGroup : MethodName := ⟨RX10, "isGroup", "(I)Z"⟩
abbrev cX10_bit : ByteArray := prog_1_method_40_code
def yX10_bit : MethodName := ⟨RX10, "bit", "(Z)I"⟩
abbrev cX10_exchange : ByteArray := prog_1_method_41_code
def yX10_exchange : MethodName := ⟨RX10, "exchange", "([III)I"⟩
abbrev cX10_makes : ByteArray := prog_1_method_42_code
def yX10_makes : MethodName := ⟨RX10, "makes", "(IIII)Z"⟩
abbrev cX10_tellsNone : ByteArray := prog_1_method_43_code
def yX10_tellsNone : MethodName := ⟨RX10, "tellsNone", "(II)Z"⟩
abbrev cX10_isAsTold : ByteArray := prog_1_method_44_code
def yX10_isAsTold : MethodName := ⟨RX10, "isAsTold", "(II)Z"⟩
abbrev cX10_tellsThing : ByteArray := prog_1_method_45_code
def yX10_tellsThing : MethodName := ⟨RX10, "tellsThing", "(II)Z"⟩
abbrev cX10_look : ByteArray := prog_1_method_46_code
def yX10_look : MethodName := ⟨RX10, "look", "()V"⟩
abbrev cX10_carry : ByteArray := prog_1_method_47_code
def yX10_carry : MethodName := ⟨RX10, "carry", "(II)V"⟩
abbrev cX10_standing : ByteArray := prog_1_method_48_code
def yX10_standing : MethodName := ⟨RX10, "standing", "(II)I"⟩
abbrev cX10_put : ByteArray := prog_1_method_49_code
def yX10_put : MethodName := ⟨RX10, "put", "(III)V"⟩
abbrev cX10_change : ByteArray := prog_1_method_50_code
def yX10_change : MethodName := ⟨RX10, "change", "(III)V"⟩
abbrev cX10_undo : ByteArray := prog_1_method_51_code
def yX10_undo : MethodName := ⟨RX10, "undo", "()V"⟩
def RX11 : String := "RollHallModel"
def TX11 : u_T := fun k => match k with
  | 0 => ("RollHallModel", "meetings", "I", false)
  | 1 => ("RollHallModel", "meetingState", "[I", true)
  | 2 => ("RollHallModel", "above", "[I", true)
  | 3 => ("RollHallModel", "notice", "[I", true)
  | 4 => ("RollHallModel", "roll", "[I", true)
  | 5 => ("RollHallModel", "laws", "[I", true)
  | 6 => ("RollHallModel", "seats", "I", false)
  | 7 => ("RollHallModel", "kind", "[I", true)
  | 8 => ("RollHallModel", "stateOf", "[I", true)
  | 9 => ("RollHallModel", "behind", "[I", true)
  | 10 => ("RollHallModel", "extra", "[I", true)
  | 11 => ("RollHallModel", "isOut", "[Z", true)
  | 12 => ("RollHallModel", "seated", "[I", true)
  | 13 => ("RollHallModel", "likes", "[I", true)
  | 14 => ("RollHallModel", "liked", "[I", true)
  | 15 => ("RollHallModel", "tape", "[B", true)
  | 16 => ("RollHallModel", "taped", "I", false)
  | 17 => ("RollHallModel", "rules", "I", false)
  | 18 => ("RollHallModel", "ruleKey", "[I", true)
  | 19 => ("RollHallModel", "ruleRank", "[I", true)
  | 20 => ("RollHallModel", "ruleN", "[I", true)
  | 21 => ("RollHallModel", "ruleM", "[I", true)
  | 22 => ("RollHallModel", "tests", "[I", true)
  | 23 => ("RollHallModel", "testField", "[I", true)
  | 24 => ("RollHallModel", "testSign", "[I", true)
  | 25 => ("RollHallModel", "testNumber", "[I", true)
  | 26 => ("RollHallModel", "at", "I", false)
  | 27 => ("RollHallModel", "fault", "I", false)
  | 28 => ("RollHallModel", "letters", "[C", true)
  | 29 => ("RollHallModel", "begins", "[I", true)
  | 30 => ("RollHallModel", "sizes", "[I", true)
  | 31 => ("RollHallModel", "motions", "I", false)
  | 32 => ("RollHallModel", "motionKey", "[I", true)
  | 33 => ("RollHallModel", "motionNumber", "[I", true)
  | 34 => ("RollHallModel", "motionRank", "[I", true)
  | 35 => ("RollHallModel", "motionN", "[I", true)
  | 36 => ("RollHallModel", "motionM", "[I", true)
  | 37 => ("RollHallModel", "isOver", "Z", false)
  | 38 => ("RollHallModel", "nominee", "I", false)
  | 39 => ("RollHallModel", "rulings", "I", false)
  | 40 => ("RollHallModel", "rulingKey", "[I", true)
  | 41 => ("RollHallModel", "rulingOf", "[I", true)
  | 42 => ("RollHallModel", "rulingWas", "[I", true)
  | 43 => ("RollHallModel", "ballots", "I", false)
  | 44 => ("RollHallModel", "asOne", "[I", true)
  | 45 => ("RollHallModel", "isReleased", "[Z", true)
  | 46 => ("RollHallModel", "had", "[I", true)
  | 47 => ("RollHallModel", "now", "[I", true)
  | 48 => ("RollHallModel", "ofUnit", "[I", true)
  | 49 => ("RollHallModel", "wasReleased", "[Z", true)
  | 50 => ("RollHallModel", "needed", "I", false)
  | 51 => ("RollHallModel", "groupVotes", "[I", true)
  | 52 => ("RollHallModel", "offers", "I", false)
  | 53 => ("RollHallModel", "offerSet", "[I", true)
  | 54 => ("RollHallModel", "worths", "[I", true)
  | 55 => ("RollHallModel", "planks", "I", false)
  | 56 => ("RollHallModel", "isTaken", "[Z", true)
  | 57 => ("RollHallModel", "words", "[I", true)
  | _ => ("RollHallModel", "word", "[I", true)
def tyX11 : Nat → FieldType := fun k => match k with
  | 0 => .int
  | 1 => .array .int
  | 2 => .array .int
  | 3 => .array .int
  | 4 => .array .int
  | 5 => .array .int
  | 6 => .int
  | 7 => .array .int
  | 8 => .array .int
  | 9 => .array .int
  | 10 => .array .int
  | 11 => .array .boolean
  | 12 => .array .int
  | 13 => .array .int
  | 14 => .array .int
  | 15 => .array .byte
  | 16 => .int
  | 17 => .int
  | 18 => .array .int
  | 19 => .array .int
  | 20 => .array .int
  | 21 => .array .int
  | 22 => .array .int
  | 23 => .array .int
  | 24 => .array .int
  | 25 => .array .int
  | 26 => .int
  | 27 => .int
  | 28 => .array .char
  | 29 => .array .int
  | 30 => .array .int
  | 31 => .int
  | 32 => .array .int
  | 33 => .array .int
  | 34 => .array .int
  | 35 => .array .int
  | 36 => .array .int
  | 37 => .boolean
  | 38 => .int
  | 39 => .int
  | 40 => .array .int
  | 41 => .array .int
  | 42 => .array .int
  | 43 => .int
  | 44 => .array .int
  | 45 => .array .boolean
  | 46 => .array .int
  | 47 => .array .int
  | 48 => .array .int
  | 49 => .array .boolean
  | 50 => .int
  | 51 => .array .int
  | 52 => .int
  | 53 => .array .int
  | 54 => .array .int
  | 55 => .int
  | 56 => .array .boolean
  | 57 => .array .int
  | _ => .array .int
abbrev wsX110 : List Cond := u_ws RX11 TX11 59
theorem nmX11 : ∀ a, a < 59 → ∀ b, b < 59 → a ≠ b → (TX11 a).2.1 ≠ (TX11 b).2.1 := by decide +kernel
theorem tyX11_ok : ∀ k, k < 59 → parseFieldDescriptor (TX11 k).2.2.1 = some (tyX11 k) := by decide +kernel
abbrev cX11_init : ByteArray := prog_13_method_1_code
def yX11_init : MethodName := ⟨RX11, "<init>", "()V"⟩
abbrev cX11_isIn : ByteArray := prog_13_method_2_code
def yX11_isIn : MethodName := ⟨RX11, "isIn", "(JJJ)Z"⟩
abbrev cX11_isMeeting : ByteArray := prog_13_method_3_code
def yX11_isMeeting : MethodName := ⟨RX11, "isMeeting", "(I)Z"⟩
abbrev cX11_isName : ByteArray := prog_13_method_4_code
def yX11_isName : MethodName := ⟨RX11, "isName", "(I)Z"⟩
abbrev cX11_meeting : ByteArray := prog_13_method_5_code
def yX11_meeting : MethodName := ⟨RX11, "meeting", "(IIII)I"⟩
abbrev cX11_law : ByteArray := prog_13_method_6_code
def yX11_law : MethodName := ⟨RX11, "law", "(II)I"⟩
abbrev cX11_isGood : ByteArray := prog_13_method_7_code
def yX11_isGood : MethodName := ⟨RX11, "isGood", "(I)Z"⟩
abbrev cX11_good : ByteArray := prog_13_method_8_code
def yX11_good : MethodName := ⟨RX11, "good", "(I)I"⟩
abbrev cX11_isSeat : ByteArray := prog_13_method_9_code
def yX11_isSeat : MethodName := ⟨RX11, "isSeat", "(I)Z"⟩
abbrev cX11_seat : ByteArray := prog_13_method_10_code
def yX11_seat : MethodName := ⟨RX11, "seat", "(IIII)I"⟩
abbrev cX11_out : ByteArray := prog_13_method_11_code
def yX11_out : MethodName := ⟨RX11, "out", "(II)I"⟩
abbrev cX11_like : ByteArray := prog_13_method_12_code
def yX11_like : MethodName := ⟨RX11, "like", "(II)I"⟩
abbrev cX11_unlike : ByteArray := prog_13_method_13_code
def yX11_unlike : MethodName := ⟨RX11, "unlike", "(I)I"⟩
abbrev cX11_credential : ByteArray := prog_13_method_14_code
def yX11_credential : MethodName := ⟨RX11, "credential", "(I)I"⟩
abbrev cX11_hasRight : ByteArray := prog_13_method_15_code
def yX11_hasRight : MethodName := ⟨RX11, "hasRight", "(I)Z"⟩
abbrev cX11_votes : ByteArray := prog_13_method_16_code
def yX11_votes : MethodName := ⟨RX11, "votes", "(I)Z"⟩
abbrev cX11_halvesOf : ByteArray := prog_13_method_17_code
def yX11_halvesOf : MethodName := ⟨RX11, "halvesOf", "(I)I"⟩
abbrev cX11_halvesAll : ByteArray := prog_13_method_18_code
def yX11_halvesAll : MethodName := ⟨RX11, "halvesAll", "()I"⟩
abbrev cX11_about : ByteArray := prog_13_method_19_code
def yX11_about : MethodName := ⟨RX11, "about", "(II)I"⟩
abbrev cX11_feed : ByteArray := prog_13_method_20_code
def yX11_feed : MethodName := ⟨RX11, "feed", "(JI)I"⟩
abbrev cX11_letter : ByteArray := prog_13_method_21_code
def yX11_letter : MethodName := ⟨RX11, "letter", "()I"⟩
abbrev cX11_expect : ByteArray := prog_13_method_22_code
def yX11_expect : MethodName := ⟨RX11, "expect", "(IJ)V"⟩
abbrev cX11_word : ByteArray := prog_13_method_23_code
def yX11_word : MethodName := ⟨RX11, "word", "(II)I"⟩
abbrev cX11_isDigit : ByteArray := prog_13_method_24_code
def yX11_isDigit : MethodName := ⟨RX11, "isDigit", "(I)Z"⟩
abbrev cX11_digit : ByteArray := prog_13_method_25_code
def yX11_digit : MethodName := ⟨RX11, "digit", "(I)I"⟩
abbrev cX11_readTest : ByteArray := prog_13_method_26_code
def yX11_readTest : MethodName := ⟨RX11, "readTest", "(I)V"⟩
abbrev cX11_read : ByteArray := prog_13_method_27_code
def yX11_read : MethodName := ⟨RX11, "read", "(I)V"⟩
abbrev cX11_rule : ByteArray := prog_13_method_28_code
def yX11_rule : MethodName := ⟨RX11, "rule", "()I"⟩
abbrev cX11_takenMany : ByteArray := prog_13_method_29_code
def yX11_takenMany : MethodName := ⟨RX11, "takenMany", "()I"⟩
abbrev cX11_holds : ByteArray := prog_13_method_30_code
def yX11_holds : MethodName := ⟨RX11, "holds", "(I)Z"⟩
abbrev cX11_ruleFor : ByteArray := prog_13_method_31_code
def yX11_ruleFor : MethodName := ⟨RX11, "ruleFor", "(I)I"⟩
abbrev cX11_force : ByteArray := prog_13_method_32_code
def yX11_force : MethodName := ⟨RX11, "force", "(I)I"⟩
abbrev cX11_makes : ByteArray := prog_13_method_33_code
def yX11_makes : MethodName := ⟨RX11, "makes", "(IIII)Z"⟩
abbrev cX11_tells : ByteArray := prog_13_method_34_code
def yX11_tells : MethodName := ⟨RX11, "tells", "(II)Z"⟩
abbrev cX11_move : ByteArray := prog_13_method_35_code
def yX11_move : MethodName := ⟨RX11, "move", "(II)I"⟩
abbrev cX11_keep : ByteArray := prog_13_method_36_code
def yX11_keep : MethodName := ⟨RX11, "keep", "(III)V"⟩
abbrev cX11_undo : ByteArray := prog_13_method_37_code
def yX11_undo : MethodName := ⟨RX11, "undo", "()V"⟩
abbrev cX11_carry : ByteArray := prog_13_method_38_code
def yX11_carry : MethodName := ⟨RX11, "carry", "(II)V"⟩
abbrev cX11_vote : ByteArray := prog_13_method_39_code
def yX11_vote : MethodName := ⟨RX11, "vote", "(I)I"⟩
abbrev cX11_motion : ByteArray := prog_13_method_40_code
def yX11_motion : MethodName := ⟨RX11, "motion", "(II)I"⟩
abbrev cX11_bind : ByteArray := prog_13_method_41_code
def yX11_bind : MethodName := ⟨RX11, "bind", "(II)I"⟩
abbrev cX11_release : ByteArray := prog_13_method_42_code
def yX11_release : MethodName := ⟨RX11, "release", "(II)I"⟩
abbrev cX11_forWhom : ByteArray := prog_13_method_43_code
def yX11_forWhom : MethodName := ⟨RX11, "forWhom", "(I)I"⟩
abbrev cX11_most : ByteArray := prog_13_method_44_code
def yX11_most : MethodName := ⟨RX11, "most", "([I)I"⟩
abbrev cX11_sayAll : ByteArray := prog_13_method_45_code
def yX11_sayAll : MethodName := ⟨RX11, "sayAll", "(I)V"⟩
abbrev cX11_poll : ByteArray := prog_13_method_46_code
def yX11_poll : MethodName := ⟨RX11, "poll", "()I"⟩
abbrev cX11_ballot : ByteArray := prog_13_method_47_code
def yX11_ballot : MethodName := ⟨RX11, "ballot", "()I"⟩
abbrev cX11_had : ByteArray := prog_13_method_48_code
def yX11_had : MethodName := ⟨RX11, "had", "(I)I"⟩
abbrev cX11_foreseen : ByteArray := prog_13_method_49_code
def yX11_foreseen : MethodName := ⟨RX11, "foreseen", "()I"⟩
abbrev cX11_foresee : ByteArray := prog_13_method_50_code
def yX11_foresee : MethodName := ⟨RX11, "foresee", "()I"⟩
abbrev cX11_needs : ByteArray := prog_13_method_51_code
def yX11_needs : MethodName := ⟨RX11, "needs", "()I"⟩
abbrev cX11_turned : ByteArray := prog_13_method_52_code
def yX11_turned : MethodName := ⟨RX11, "turned", "()I"⟩
abbrev cX11_isGroup : ByteArray := prog_13_method_53_code
def yX11_isGroup : MethodName := ⟨RX11, "isGroup", "(I)Z"⟩
abbrev cX11_isOffer : ByteArray := prog_13_method_54_code
def yX11_isOffer : MethodName := ⟨RX11, "isOffer", "(I)Z"⟩
abbrev cX11_group : ByteArray := prog_13_method_55_code
def yX11_group : MethodName := ⟨RX11, "group", "(II)I"⟩
abbrev cX11_offer : ByteArray := prog_13_method_56_code
def yX11_offer : MethodName := ⟨RX11, "offer", "(I)I"⟩
abbrev cX11_gets : ByteArray := prog_13_method_57_code
def yX11_gets : MethodName := ⟨RX11, "gets", "(III)I"⟩
abbrev cX11_wins : ByteArray := prog_13_method_58_code
def yX11_wins : MethodName := ⟨RX11, "wins", "(I)Z"⟩
abbrev cX11_breakerOf : ByteArray := prog_13_method_59_code
def yX11_breakerOf : MethodName := ⟨RX11, "breakerOf", "(I)I"⟩
abbrev cX11_bargain : ByteArray := prog_13_method_60_code
def yX11_bargain : MethodName := ⟨RX11, "bargain", "(II)I"⟩
abbrev cX11_breaks : ByteArray := prog_13_method_61_code
def yX11_breaks : MethodName := ⟨RX11, "breaks", "(I)I"⟩
abbrev cX11_isPlank : ByteArray := prog_13_method_62_code
def yX11_isPlank : MethodName := ⟨RX11, "isPlank", "(I)Z"⟩
abbrev cX11_plank : ByteArray := prog_13_method_63_code
def yX11_plank : MethodName := ⟨RX11, "plank", "()I"⟩
abbrev cX11_amend : ByteArray := prog_13_method_64_code
def yX11_amend : MethodName := ⟨RX11, "amend", "(III)I"⟩
abbrev cX11_strike : ByteArray := prog_13_method_65_code
def yX11_strike : MethodName := ⟨RX11, "strike", "(III)I"⟩
abbrev cX11_platform : ByteArray := prog_13_method_66_code
def yX11_platform : MethodName := ⟨RX11, "platform", "(I)I"⟩
abbrev cX11_taken : ByteArray := prog_13_method_67_code
def yX11_taken : MethodName := ⟨RX11, "taken", "(I)I"⟩
abbrev cX11_count : ByteArray := prog_13_method_68_code
def yX11_count : MethodName := ⟨RX11, "count", "(I)I"⟩
def RJ9 : String := "java/lang/Math"
def TJ9 : u_T := fun k => match k with
  | _ => ("", "", "", false)
def tyJ9 : Nat → FieldType := fun k => match k with
  | _ => .int
abbrev wsJ90 : List Cond := u_ws RJ9 TJ9 0
theorem nmJ9 : ∀ a, a < 0 → ∀ b, b < 0 → a ≠ b → (TJ9 a).2.1 ≠ (TJ9 b).2.1 := by decide +kernel
theorem tyJ9_ok : ∀ k, k < 0 → parseFieldDescriptor (TJ9 k).2.2.1 = some (tyJ9 k) := by decide +kernel
abbrev cJ9_floorDiv_7cf53 : ByteArray := prog_14_method_47_code
def yJ9_floorDiv_7cf53 : MethodName := ⟨RJ9, "floorDiv", "(II)I"⟩
abbrev cJ9_floorMod_7cf53 : ByteArray := prog_14_method_50_code
def yJ9_floorMod_7cf53 : MethodName := ⟨RJ9, "floorMod", "(II)I"⟩
def RJ0 : String := "java/lang/String"
def TJ0 : u_T := fun k => match k with
  | _ => ("", "", "", false)
def tyJ0 : Nat → FieldType := fun k => match k with
  | _ => .int
abbrev wsJ00 : List Cond := u_ws RJ0 TJ0 0
theorem nmJ0 : ∀ a, a < 0 → ∀ b, b < 0 → a ≠ b → (TJ0 a).2.1 ≠ (TJ0 b).2.1 := by decide +kernel
theorem tyJ0_ok : ∀ k, k < 0 → parseFieldDescriptor (TJ0 k).2.2.1 = some (tyJ0 k) := by decide +kernel
abbrev cJ0_length_8abf5 : ByteArray := prog_15_method_54_code
def yJ0_length_8abf5 : MethodName := ⟨RJ0, "length", "()I"⟩
abbrev cJ0_charAt_5068e : ByteArray := prog_15_method_56_code
def yJ0_charAt_5068e : MethodName := ⟨RJ0, "charAt", "(I)C"⟩
abbrev cJ0_coder_7d493 : ByteArray := prog_15_method_152_code
def yJ0_coder_7d493 : MethodName := ⟨RJ0, "coder", "()B"⟩
abbrev cJ0_isLatin1_aae02 : ByteArray := prog_15_method_154_code
def yJ0_isLatin1_aae02 : MethodName := ⟨RJ0, "isLatin1", "()Z"⟩
abbrev cJ0_checkIndex_df160 : ByteArray := prog_15_method_155_code
def yJ0_checkIndex_df160 : MethodName := ⟨RJ0, "checkIndex", "(II)V"⟩
def RJ1 : String := "java/lang/StringLatin1"
def TJ1 : u_T := fun k => match k with
  | _ => ("", "", "", false)
def tyJ1 : Nat → FieldType := fun k => match k with
  | _ => .int
abbrev wsJ10 : List Cond := u_ws RJ1 TJ1 0
theorem nmJ1 : ∀ a, a < 0 → ∀ b, b < 0 → a ≠ b → (TJ1 a).2.1 ≠ (TJ1 b).2.1 := by decide +kernel
theorem tyJ1_ok : ∀ k, k < 0 → parseFieldDescriptor (TJ1 k).2.2.1 = some (tyJ1 k) := by decide +kernel
abbrev cJ1_charAt_3b067 : ByteArray := prog_16_method_2_code
def yJ1_charAt_3b067 : MethodName := ⟨RJ1, "charAt", "([BI)C"⟩
def RJ2 : String := "java/lang/StringUTF16"
def TJ2 : u_T := fun k => match k with
  | _ => ("", "", "", false)
def tyJ2 : Nat → FieldType := fun k => match k with
  | _ => .int
abbrev wsJ20 : List Cond := u_ws RJ2 TJ2 0
theorem nmJ2 : ∀ a, a < 0 → ∀ b, b < 0 → a ≠ b → (TJ2 a).2.1 ≠ (TJ2 b).2.1 := by decide +kernel
theorem tyJ2_ok : ∀ k, k < 0 → parseFieldDescriptor (TJ2 k).2.2.1 = some (tyJ2 k) := by decide +kernel
abbrev cJ2_getChar_3b067 : ByteArray := prog_17_method_5_code
def yJ2_getChar_3b067 : MethodName := ⟨RJ2, "getChar", "([BI)C"⟩
abbrev cJ2_length_9d52b : ByteArray := prog_17_method_6_code
def yJ2_length_9d52b : MethodName := ⟨RJ2, "length", "([B)I"⟩
abbrev cJ2_charAt_3b067 : ByteArray := prog_17_method_83_code
def yJ2_charAt_3b067 : MethodName := ⟨RJ2, "charAt", "([BI)C"⟩
abbrev cJ2_checkIndex_2214a : ByteArray := prog_17_method_91_code
def yJ2_checkIndex_2214a : MethodName := ⟨RJ2, "checkIndex", "(I[B)V"⟩
def RJ10 : String := "java/lang/System"
def TJ10 : u_T := fun k => match k with
  | _ => ("", "", "", false)
def tyJ10 : Nat → FieldType := fun k => match k with
  | _ => .int
abbrev wsJ100 : List Cond := u_ws RJ10 TJ10 0
theorem nmJ10 : ∀ a, a < 0 → ∀ b, b < 0 → a ≠ b → (TJ10 a).2.1 ≠ (TJ10 b).2.1 := by decide +kernel
theorem tyJ10_ok : ∀ k, k < 0 → parseFieldDescriptor (TJ10 k).2.2.1 = some (tyJ10 k) := by decide +kernel
def RJ7 : String := "java/util/Arrays"
def TJ7 : u_T := fun k => match k with
  | _ => ("", "", "", false)
def tyJ7 : Nat → FieldType := fun k => match k with
  | _ => .int
abbrev wsJ70 : List Cond := u_ws RJ7 TJ7 0
theorem nmJ7 : ∀ a, a < 0 → ∀ b, b < 0 → a ≠ b → (TJ7 a).2.1 ≠ (TJ7 b).2.1 := by decide +kernel
theorem tyJ7_ok : ∀ k, k < 0 → parseFieldDescriptor (TJ7 k).2.2.1 = some (tyJ7 k) := by decide +kernel
abbrev cJ7_fill_53178 : ByteArray := prog_19_method_103_code
def yJ7_fill_53178 : MethodName := ⟨RJ7, "fill", "([II)V"⟩
def RJ3 : String := "jdk/internal/util/Preconditions"
def TJ3 : u_T := fun k => match k with
  | _ => ("", "", "", false)
def tyJ3 : Nat → FieldType := fun k => match k with
  | _ => .int
abbrev wsJ30 : List Cond := u_ws RJ3 TJ3 0
theorem nmJ3 : ∀ a, a < 0 → ∀ b, b < 0 → a ≠ b → (TJ3 a).2.1 ≠ (TJ3 b).2.1 := by decide +kernel
theorem tyJ3_ok : ∀ k, k < 0 → parseFieldDescriptor (TJ3 k).2.2.1 = some (tyJ3 k) := by decide +kernel
abbrev cJ3_checkIndex_8e157 : ByteArray := prog_20_method_11_code
def yJ3_checkIndex_8e157 : MethodName := ⟨RJ3, "checkIndex", "(IILjava/util/function/BiFunction;)I"⟩
def RL : String := "RollHallLaw"
abbrev cL_law : ByteArray := code
def yL_law : MethodName := ⟨RL, "law", "([I)Z"⟩
abbrev vwCl : List vw_C := [(RX0, TX0, 7), (RX1, TX1, 4), (RX2, TX2, 6), (RX3, TX3, 6), (RX4, TX4, 4), (RX5, TX5, 9), (RX6, TX6, 4), (RX7, TX7, 10), (RX8, TX8, 7), (RX9, TX9, 4), (RX10, TX10, 12), (RX11, TX11, 59)]
theorem xi_0 : ∀ w ∈ u_ws RX0 TX0 7, w ∈ lw_tbl := fun w h => by
  have e : u_ws RX0 TX0 7 = ([314, 316, 318, 320, 322, 324, 326] : List Nat).filterMap (fun i => lw_tbl[i]?) := by decide +kernel
  rw [e] at h
  obtain ⟨i, -, hi⟩ := List.mem_filterMap.mp h
  exact List.mem_of_getElem? hi
theorem xi_1 : ∀ w ∈ u_ws RX1 TX1 4, w ∈ lw_tbl := fun w h => by
  have e : u_ws RX1 TX1 4 = ([342, 344, 346, 348] : List Nat).filterMap (fun i => lw_tbl[i]?) := by decide +kernel
  rw [e] at h
  obtain ⟨i, -, hi⟩ := List.mem_filterMap.mp h
  exact List.mem_of_getElem? hi
theorem xi_2 : ∀ w ∈ u_ws RX2 TX2 6, w ∈ lw_tbl := fun w h => by
  have e : u_ws RX2 TX2 6 = ([93, 95, 97, 99, 101, 103] : List Nat).filterMap (fun i => lw_tbl[i]?) := by decide +kernel
  rw [e] at h
  obtain ⟨i, -, hi⟩ := List.mem_filterMap.mp h
  exact List.mem_of_getElem? hi
theorem xi_3 : ∀ w ∈ u_ws RX3 TX3 6, w ∈ lw_tbl := fun w h => by
  have e : u_ws RX3 TX3 6 = ([228, 230, 232, 234, 236, 238] : List Nat).filterMap (fun i => lw_tbl[i]?) := by decide +kernel
  rw [e] at h
  obtain ⟨i, -, hi⟩ := List.mem_filterMap.mp h
  exact List.mem_of_getElem? hi
theorem xi_4 : ∀ w ∈ u_ws RX4 TX4 4, w ∈ lw_tbl := fun w h => by
  have e : u_ws RX4 TX4 4 = ([364, 366, 368, 370] : List Nat).filterMap (fun i => lw_tbl[i]?) := by decide +kernel
  rw [e] at h
  obtain ⟨i, -, hi⟩ := List.mem_filterMap.mp h
  exact List.mem_of_getElem? hi
theorem xi_5 : ∀ w ∈ u_ws RX5 TX5 9, w ∈ lw_tbl := fun w h => by
  have e : u_ws RX5 TX5 9 = ([191, 193, 195, 197, 199, 201, 203, 205, 207] : List Nat).filterMap (fun i => lw_tbl[i]?) := by decide +kernel
  rw [e] at h
  obtain ⟨i, -, hi⟩ := List.mem_filterMap.mp h
  exact List.mem_of_getElem? hi
theorem xi_6 : ∀ w ∈ u_ws RX6 TX6 4, w ∈ lw_tbl := fun w h => by
  have e : u_ws RX6 TX6 4 = ([252, 254, 256, 258] : List Nat).filterMap (fun i => lw_tbl[i]?) := by decide +kernel
  rw [e] at h
  obtain ⟨i, -, hi⟩ := List.mem_filterMap.mp h
  exact List.mem_of_getElem? hi
theorem xi_7 : ∀ w ∈ u_ws RX7 TX7 10, w ∈ lw_tbl := fun w h => by
  have e : u_ws RX7 TX7 10 = ([134, 136, 138, 140, 142, 144, 146, 148, 150, 152] : List Nat).filterMap (fun i => lw_tbl[i]?) := by decide +kernel
  rw [e] at h
  obtain ⟨i, -, hi⟩ := List.mem_filterMap.mp h
  exact List.mem_of_getElem? hi
theorem xi_8 : ∀ w ∈ u_ws RX8 TX8 7, w ∈ lw_tbl := fun w h => by
  have e : u_ws RX8 TX8 7 = ([283, 285, 287, 289, 291, 293, 295] : List Nat).filterMap (fun i => lw_tbl[i]?) := by decide +kernel
  rw [e] at h
  obtain ⟨i, -, hi⟩ := List.mem_filterMap.mp h
  exact List.mem_of_getElem? hi
theorem xi_9 : ∀ w ∈ u_ws RX9 TX9 4, w ∈ lw_tbl := fun w h => by
  have e : u_ws RX9 TX9 4 = ([166, 168, 170, 172] : List Nat).filterMap (fun i => lw_tbl[i]?) := by decide +kernel
  rw [e] at h
  obtain ⟨i, -, hi⟩ := List.mem_filterMap.mp h
  exact List.mem_of_getElem? hi
theorem xi_10 : ∀ w ∈ u_ws RX10 TX10 12, w ∈ lw_tbl := fun w h => by
  have e : u_ws RX10 TX10 12 = ([385, 387, 389, 391, 393, 395, 397, 399, 401, 403, 405, 407] : List Nat).filterMap (fun i => lw_tbl[i]?) := by decide +kernel
  rw [e] at h
  obtain ⟨i, -, hi⟩ := List.mem_filterMap.mp h
  exact List.mem_of_getElem? hi
theorem xi_11 : ∀ w ∈ u_ws RX11 TX11 59, w ∈ lw_tbl := fun w h => by
  have e : u_ws RX11 TX11 59 = ([1124, 1126, 1128, 1130, 1132, 1134, 1136, 1138, 1140, 1142, 1144, 1146, 1148, 1150, 1152, 1154, 1156, 1158, 1160, 1162, 1164, 1166, 1168, 1170, 1172, 1174, 1176, 1178, 1180, 1182, 1184, 1186, 1188, 1190, 1192, 1194, 1196, 1198, 1200, 1202, 1204, 1206, 1208, 1210, 1212, 1214, 1216, 1218, 1220, 1222, 1224, 1226, 1228, 1230, 1232, 1234, 1236, 1238, 1240] : List Nat).filterMap (fun i => lw_tbl[i]?) := by decide +kernel
  rw [e] at h
  obtain ⟨i, -, hi⟩ := List.mem_filterMap.mp h
  exact List.mem_of_getElem? hi
