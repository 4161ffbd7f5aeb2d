section
-- ===== PART A: goes FIRST, ahead of the names: the tables' words, and 'selects' of the private methods out of them =====
/-- a private method of a class that the tables say can be made, by its rows of tables_1 -/
def lw_okq (q : MethodName × Nat) : Prop := (q.1.cls ≠ "java/lang/invoke/MethodHandle" ∧ q.1.cls ≠ "java/lang/invoke/VarHandle") ∧ Cond.instantiable q.1.cls q.2 ∈ tables_1 ∧ Cond.privateMethod q.1 ∈ tables_1 ∧ Cond.instanceMethod q.1 ∈ tables_1
theorem lw_p0 : lw_okq (⟨"GroupLog", "isReplica", "(I)Z"⟩, 8) := ⟨⟨by decide +kernel, by decide +kernel⟩, List.mem_of_getElem? (i := 8) (by decide +kernel), List.mem_of_getElem? (i := 145) (by decide +kernel), List.mem_of_getElem? (i := 146) (by decide +kernel)⟩
theorem lw_p1 : lw_okq (⟨"GroupLog", "leads", "(LGroupLog$Replica;)Z"⟩, 8) := ⟨⟨by decide +kernel, by decide +kernel⟩, List.mem_of_getElem? (i := 8) (by decide +kernel), List.mem_of_getElem? (i := 152) (by decide +kernel), List.mem_of_getElem? (i := 153) (by decide +kernel)⟩
theorem lw_p2 : lw_okq (⟨"GroupLog", "primaryOf", "(I)I"⟩, 8) := ⟨⟨by decide +kernel, by decide +kernel⟩, List.mem_of_getElem? (i := 8) (by decide +kernel), List.mem_of_getElem? (i := 156) (by decide +kernel), List.mem_of_getElem? (i := 157) (by decide +kernel)⟩
theorem lw_p3 : lw_okq (⟨"GroupLog", "repeatAnswer", "(LGroupLog$Replica;LGroupLog$Log;)I"⟩, 8) := ⟨⟨by decide +kernel, by decide +kernel⟩, List.mem_of_getElem? (i := 8) (by decide +kernel), List.mem_of_getElem? (i := 174) (by decide +kernel), List.mem_of_getElem? (i := 175) (by decide +kernel)⟩
theorem lw_p4 : lw_okq (⟨"GroupLog", "answerClient", "(LGroupLog$Log;)V"⟩, 8) := ⟨⟨by decide +kernel, by decide +kernel⟩, List.mem_of_getElem? (i := 8) (by decide +kernel), List.mem_of_getElem? (i := 178) (by decide +kernel), List.mem_of_getElem? (i := 179) (by decide +kernel)⟩
theorem lw_p5 : lw_okq (⟨"GroupLog", "sendToAll", "(LGroupLog$Replica;I)V"⟩, 8) := ⟨⟨by decide +kernel, by decide +kernel⟩, List.mem_of_getElem? (i := 8) (by decide +kernel), List.mem_of_getElem? (i := 186) (by decide +kernel), List.mem_of_getElem? (i := 187) (by decide +kernel)⟩
theorem lw_p6 : lw_okq (⟨"GroupLog", "send", "(LGroupLog$Replica;II)V"⟩, 8) := ⟨⟨by decide +kernel, by decide +kernel⟩, List.mem_of_getElem? (i := 8) (by decide +kernel), List.mem_of_getElem? (i := 190) (by decide +kernel), List.mem_of_getElem? (i := 191) (by decide +kernel)⟩
theorem lw_p7 : lw_okq (⟨"GroupLog", "findMessage", "(I)LGroupLog$Message;"⟩, 8) := ⟨⟨by decide +kernel, by decide +kernel⟩, List.mem_of_getElem? (i := 8) (by decide +kernel), List.mem_of_getElem? (i := 240) (by decide +kernel), List.mem_of_getElem? (i := 241) (by decide +kernel)⟩
theorem lw_p8 : lw_okq (⟨"GroupLog", "receive", "(LGroupLog$Message;)I"⟩, 8) := ⟨⟨by decide +kernel, by decide +kernel⟩, List.mem_of_getElem? (i := 8) (by decide +kernel), List.mem_of_getElem? (i := 244) (by decide +kernel), List.mem_of_getElem? (i := 245) (by decide +kernel)⟩
theorem lw_p9 : lw_okq (⟨"GroupLog$Replica", "dropOutdated", "([LGroupLog$Message;)V"⟩, 13) := ⟨⟨by decide +kernel, by decide +kernel⟩, List.mem_of_getElem? (i := 19) (by decide +kernel), List.mem_of_getElem? (i := 270) (by decide +kernel), List.mem_of_getElem? (i := 271) (by decide +kernel)⟩
theorem lw_p10 : lw_okq (⟨"GroupLog", "takePrepare", "(LGroupLog$Replica;LGroupLog$Message;)V"⟩, 8) := ⟨⟨by decide +kernel, by decide +kernel⟩, List.mem_of_getElem? (i := 8) (by decide +kernel), List.mem_of_getElem? (i := 274) (by decide +kernel), List.mem_of_getElem? (i := 275) (by decide +kernel)⟩
theorem lw_p11 : lw_okq (⟨"GroupLog", "takeOk", "(LGroupLog$Replica;LGroupLog$Message;)V"⟩, 8) := ⟨⟨by decide +kernel, by decide +kernel⟩, List.mem_of_getElem? (i := 8) (by decide +kernel), List.mem_of_getElem? (i := 282) (by decide +kernel), List.mem_of_getElem? (i := 283) (by decide +kernel)⟩
theorem lw_p12 : lw_okq (⟨"GroupLog$Replica", "countAcked", "(I)I"⟩, 13) := ⟨⟨by decide +kernel, by decide +kernel⟩, List.mem_of_getElem? (i := 19) (by decide +kernel), List.mem_of_getElem? (i := 290) (by decide +kernel), List.mem_of_getElem? (i := 291) (by decide +kernel)⟩
theorem lw_p13 : lw_okq (⟨"GroupLog", "replyIfNormal", "(LGroupLog$Replica;LGroupLog$Message;I)V"⟩, 8) := ⟨⟨by decide +kernel, by decide +kernel⟩, List.mem_of_getElem? (i := 8) (by decide +kernel), List.mem_of_getElem? (i := 298) (by decide +kernel), List.mem_of_getElem? (i := 299) (by decide +kernel)⟩
theorem lw_p14 : lw_okq (⟨"GroupLog", "takeState", "(LGroupLog$Replica;LGroupLog$Message;)V"⟩, 8) := ⟨⟨by decide +kernel, by decide +kernel⟩, List.mem_of_getElem? (i := 8) (by decide +kernel), List.mem_of_getElem? (i := 302) (by decide +kernel), List.mem_of_getElem? (i := 303) (by decide +kernel)⟩
theorem lw_p15 : lw_okq (⟨"GroupLog", "joinChange", "(LGroupLog$Replica;LGroupLog$Message;)Z"⟩, 8) := ⟨⟨by decide +kernel, by decide +kernel⟩, List.mem_of_getElem? (i := 8) (by decide +kernel), List.mem_of_getElem? (i := 314) (by decide +kernel), List.mem_of_getElem? (i := 315) (by decide +kernel)⟩
def lw_privs_1 : List (MethodName × Nat) := [(⟨"GroupLog", "isReplica", "(I)Z"⟩, 8), (⟨"GroupLog", "leads", "(LGroupLog$Replica;)Z"⟩, 8), (⟨"GroupLog", "primaryOf", "(I)I"⟩, 8), (⟨"GroupLog", "repeatAnswer", "(LGroupLog$Replica;LGroupLog$Log;)I"⟩, 8), (⟨"GroupLog", "answerClient", "(LGroupLog$Log;)V"⟩, 8), (⟨"GroupLog", "sendToAll", "(LGroupLog$Replica;I)V"⟩, 8), (⟨"GroupLog", "send", "(LGroupLog$Replica;II)V"⟩, 8), (⟨"GroupLog", "findMessage", "(I)LGroupLog$Message;"⟩, 8), (⟨"GroupLog", "receive", "(LGroupLog$Message;)I"⟩, 8), (⟨"GroupLog$Replica", "dropOutdated", "([LGroupLog$Message;)V"⟩, 13), (⟨"GroupLog", "takePrepare", "(LGroupLog$Replica;LGroupLog$Message;)V"⟩, 8), (⟨"GroupLog", "takeOk", "(LGroupLog$Replica;LGroupLog$Message;)V"⟩, 8), (⟨"GroupLog$Replica", "countAcked", "(I)I"⟩, 13), (⟨"GroupLog", "replyIfNormal", "(LGroupLog$Replica;LGroupLog$Message;I)V"⟩, 8), (⟨"GroupLog", "takeState", "(LGroupLog$Replica;LGroupLog$Message;)V"⟩, 8), (⟨"GroupLog", "joinChange", "(LGroupLog$Replica;LGroupLog$Message;)Z"⟩, 8)]
theorem lw_r1 : ∀ q ∈ lw_privs_1, lw_okq q := List.forall_mem_cons.mpr ⟨lw_p0, List.forall_mem_cons.mpr ⟨lw_p1, List.forall_mem_cons.mpr ⟨lw_p2, List.forall_mem_cons.mpr ⟨lw_p3, List.forall_mem_cons.mpr ⟨lw_p4, List.forall_mem_cons.mpr ⟨lw_p5, List.forall_mem_cons.mpr ⟨lw_p6, List.forall_mem_cons.mpr ⟨lw_p7, List.forall_mem_cons.mpr ⟨lw_p8, List.forall_mem_cons.mpr ⟨lw_p9, List.forall_mem_cons.mpr ⟨lw_p10, List.forall_mem_cons.mpr ⟨lw_p11, List.forall_mem_cons.mpr ⟨lw_p12, List.forall_mem_cons.mpr ⟨lw_p13, List.forall_mem_cons.mpr ⟨lw_p14, List.forall_mem_cons.mpr ⟨lw_p15, fun _ h => absurd h List.not_mem_nil⟩⟩⟩⟩⟩⟩⟩⟩⟩⟩⟩⟩⟩⟩⟩⟩
theorem lw_p16 : lw_okq (⟨"GroupLog", "startChanging", "(LGroupLog$Replica;I)V"⟩, 8) := ⟨⟨by decide +kernel, by decide +kernel⟩, List.mem_of_getElem? (i := 8) (by decide +kernel), List.mem_of_getElem? (i := 318) (by decide +kernel), List.mem_of_getElem? (i := 319) (by decide +kernel)⟩
theorem lw_p17 : lw_okq (⟨"GroupLog", "keepVote", "(LGroupLog$Replica;LGroupLog$Message;)V"⟩, 8) := ⟨⟨by decide +kernel, by decide +kernel⟩, List.mem_of_getElem? (i := 8) (by decide +kernel), List.mem_of_getElem? (i := 323) (by decide +kernel), List.mem_of_getElem? (i := 324) (by decide +kernel)⟩
theorem lw_p18 : lw_okq (⟨"GroupLog", "keepPaper", "(LGroupLog$Replica;LGroupLog$Message;)V"⟩, 8) := ⟨⟨by decide +kernel, by decide +kernel⟩, List.mem_of_getElem? (i := 8) (by decide +kernel), List.mem_of_getElem? (i := 330) (by decide +kernel), List.mem_of_getElem? (i := 331) (by decide +kernel)⟩
theorem lw_p19 : lw_okq (⟨"GroupLog", "keepResponse", "(LGroupLog$Replica;LGroupLog$Message;)V"⟩, 8) := ⟨⟨by decide +kernel, by decide +kernel⟩, List.mem_of_getElem? (i := 8) (by decide +kernel), List.mem_of_getElem? (i := 343) (by decide +kernel), List.mem_of_getElem? (i := 344) (by decide +kernel)⟩
theorem lw_p20 : lw_okq (⟨"GroupLog", "othersLost", "(LGroupLog$Replica;)I"⟩, 8) := ⟨⟨by decide +kernel, by decide +kernel⟩, List.mem_of_getElem? (i := 8) (by decide +kernel), List.mem_of_getElem? (i := 366) (by decide +kernel), List.mem_of_getElem? (i := 367) (by decide +kernel)⟩
theorem lw_p21 : lw_okq (⟨"GroupLog", "hasEntry", "(II)Z"⟩, 8) := ⟨⟨by decide +kernel, by decide +kernel⟩, List.mem_of_getElem? (i := 8) (by decide +kernel), List.mem_of_getElem? (i := 401) (by decide +kernel), List.mem_of_getElem? (i := 402) (by decide +kernel)⟩
theorem lw_p22 : lw_okq (⟨"GroupLogModel", "there", "(I)Z"⟩, 32) := ⟨⟨by decide +kernel, by decide +kernel⟩, List.mem_of_getElem? (i := 436) (by decide +kernel), List.mem_of_getElem? (i := 544) (by decide +kernel), List.mem_of_getElem? (i := 545) (by decide +kernel)⟩
theorem lw_p23 : lw_okq (⟨"GroupLogModel", "receive", "(I)I"⟩, 32) := ⟨⟨by decide +kernel, by decide +kernel⟩, List.mem_of_getElem? (i := 436) (by decide +kernel), List.mem_of_getElem? (i := 548) (by decide +kernel), List.mem_of_getElem? (i := 549) (by decide +kernel)⟩
theorem lw_p24 : lw_okq (⟨"GroupLogModel", "copy", "(II)V"⟩, 32) := ⟨⟨by decide +kernel, by decide +kernel⟩, List.mem_of_getElem? (i := 436) (by decide +kernel), List.mem_of_getElem? (i := 552) (by decide +kernel), List.mem_of_getElem? (i := 553) (by decide +kernel)⟩
theorem lw_p25 : lw_okq (⟨"GroupLogModel", "learn", "(I)V"⟩, 32) := ⟨⟨by decide +kernel, by decide +kernel⟩, List.mem_of_getElem? (i := 436) (by decide +kernel), List.mem_of_getElem? (i := 556) (by decide +kernel), List.mem_of_getElem? (i := 557) (by decide +kernel)⟩
theorem lw_p26 : lw_okq (⟨"GroupLogModel", "act", "(II)V"⟩, 32) := ⟨⟨by decide +kernel, by decide +kernel⟩, List.mem_of_getElem? (i := 436) (by decide +kernel), List.mem_of_getElem? (i := 560) (by decide +kernel), List.mem_of_getElem? (i := 561) (by decide +kernel)⟩
theorem lw_p27 : lw_okq (⟨"GroupLogModel", "prepare", "(II)V"⟩, 32) := ⟨⟨by decide +kernel, by decide +kernel⟩, List.mem_of_getElem? (i := 436) (by decide +kernel), List.mem_of_getElem? (i := 564) (by decide +kernel), List.mem_of_getElem? (i := 565) (by decide +kernel)⟩
theorem lw_p28 : lw_okq (⟨"GroupLogModel", "send", "(III)V"⟩, 32) := ⟨⟨by decide +kernel, by decide +kernel⟩, List.mem_of_getElem? (i := 436) (by decide +kernel), List.mem_of_getElem? (i := 568) (by decide +kernel), List.mem_of_getElem? (i := 569) (by decide +kernel)⟩
theorem lw_p29 : lw_okq (⟨"GroupLogModel", "append", "(IIII)V"⟩, 32) := ⟨⟨by decide +kernel, by decide +kernel⟩, List.mem_of_getElem? (i := 436) (by decide +kernel), List.mem_of_getElem? (i := 572) (by decide +kernel), List.mem_of_getElem? (i := 573) (by decide +kernel)⟩
theorem lw_p30 : lw_okq (⟨"GroupLogModel", "ok", "(II)V"⟩, 32) := ⟨⟨by decide +kernel, by decide +kernel⟩, List.mem_of_getElem? (i := 436) (by decide +kernel), List.mem_of_getElem? (i := 576) (by decide +kernel), List.mem_of_getElem? (i := 577) (by decide +kernel)⟩
theorem lw_p31 : lw_okq (⟨"GroupLogModel", "leads", "(I)Z"⟩, 32) := ⟨⟨by decide +kernel, by decide +kernel⟩, List.mem_of_getElem? (i := 436) (by decide +kernel), List.mem_of_getElem? (i := 580) (by decide +kernel), List.mem_of_getElem? (i := 581) (by decide +kernel)⟩
def lw_privs_2 : List (MethodName × Nat) := [(⟨"GroupLog", "startChanging", "(LGroupLog$Replica;I)V"⟩, 8), (⟨"GroupLog", "keepVote", "(LGroupLog$Replica;LGroupLog$Message;)V"⟩, 8), (⟨"GroupLog", "keepPaper", "(LGroupLog$Replica;LGroupLog$Message;)V"⟩, 8), (⟨"GroupLog", "keepResponse", "(LGroupLog$Replica;LGroupLog$Message;)V"⟩, 8), (⟨"GroupLog", "othersLost", "(LGroupLog$Replica;)I"⟩, 8), (⟨"GroupLog", "hasEntry", "(II)Z"⟩, 8), (⟨"GroupLogModel", "there", "(I)Z"⟩, 32), (⟨"GroupLogModel", "receive", "(I)I"⟩, 32), (⟨"GroupLogModel", "copy", "(II)V"⟩, 32), (⟨"GroupLogModel", "learn", "(I)V"⟩, 32), (⟨"GroupLogModel", "act", "(II)V"⟩, 32), (⟨"GroupLogModel", "prepare", "(II)V"⟩, 32), (⟨"GroupLogModel", "send", "(III)V"⟩, 32), (⟨"GroupLogModel", "append", "(IIII)V"⟩, 32), (⟨"GroupLogModel", "ok", "(II)V"⟩, 32), (⟨"GroupLogModel", "leads", "(I)Z"⟩, 32)]
theorem lw_r2 : ∀ q ∈ lw_privs_2, lw_okq q := List.forall_mem_cons.mpr ⟨lw_p16, List.forall_mem_cons.mpr ⟨lw_p17, List.forall_mem_cons.mpr ⟨lw_p18, List.forall_mem_cons.mpr ⟨lw_p19, List.forall_mem_cons.mpr ⟨lw_p20, List.forall_mem_cons.mpr ⟨lw_p21, List.forall_mem_cons.mpr ⟨lw_p22, List.forall_mem_cons.mpr ⟨lw_p23, List.forall_mem_cons.mpr ⟨lw_p24, List.forall_mem_cons.mpr ⟨lw_p25, List.forall_mem_cons.mpr ⟨lw_p26, List.forall_mem_cons.mpr ⟨lw_p27, List.forall_mem_cons.mpr ⟨lw_p28, List.forall_mem_cons.mpr ⟨lw_p29, List.forall_mem_cons.mpr ⟨lw_p30, List.forall_mem_cons.mpr ⟨lw_p31, fun _ h => absurd h List.not_mem_nil⟩⟩⟩⟩⟩⟩⟩⟩⟩⟩⟩⟩⟩⟩⟩⟩
theorem lw_p32 : lw_okq (⟨"GroupLogModel", "answerTo", "(II)V"⟩, 32) := ⟨⟨by decide +kernel, by decide +kernel⟩, List.mem_of_getElem? (i := 436) (by decide +kernel), List.mem_of_getElem? (i := 584) (by decide +kernel), List.mem_of_getElem? (i := 585) (by decide +kernel)⟩
theorem lw_p33 : lw_okq (⟨"GroupLogModel", "sum", "(II)I"⟩, 32) := ⟨⟨by decide +kernel, by decide +kernel⟩, List.mem_of_getElem? (i := 436) (by decide +kernel), List.mem_of_getElem? (i := 588) (by decide +kernel), List.mem_of_getElem? (i := 589) (by decide +kernel)⟩
theorem lw_p34 : lw_okq (⟨"GroupLogModel", "state", "(I)V"⟩, 32) := ⟨⟨by decide +kernel, by decide +kernel⟩, List.mem_of_getElem? (i := 436) (by decide +kernel), List.mem_of_getElem? (i := 592) (by decide +kernel), List.mem_of_getElem? (i := 593) (by decide +kernel)⟩
theorem lw_p35 : lw_okq (⟨"GroupLogModel", "forget", "(I)V"⟩, 32) := ⟨⟨by decide +kernel, by decide +kernel⟩, List.mem_of_getElem? (i := 436) (by decide +kernel), List.mem_of_getElem? (i := 596) (by decide +kernel), List.mem_of_getElem? (i := 597) (by decide +kernel)⟩
theorem lw_p36 : lw_okq (⟨"GroupLogModel", "change", "(II)V"⟩, 32) := ⟨⟨by decide +kernel, by decide +kernel⟩, List.mem_of_getElem? (i := 436) (by decide +kernel), List.mem_of_getElem? (i := 600) (by decide +kernel), List.mem_of_getElem? (i := 601) (by decide +kernel)⟩
theorem lw_p37 : lw_okq (⟨"GroupLogModel", "start", "(II)V"⟩, 32) := ⟨⟨by decide +kernel, by decide +kernel⟩, List.mem_of_getElem? (i := 436) (by decide +kernel), List.mem_of_getElem? (i := 604) (by decide +kernel), List.mem_of_getElem? (i := 605) (by decide +kernel)⟩
theorem lw_p38 : lw_okq (⟨"GroupLogModel", "sendAll", "(II)V"⟩, 32) := ⟨⟨by decide +kernel, by decide +kernel⟩, List.mem_of_getElem? (i := 436) (by decide +kernel), List.mem_of_getElem? (i := 608) (by decide +kernel), List.mem_of_getElem? (i := 609) (by decide +kernel)⟩
theorem lw_p39 : lw_okq (⟨"GroupLogModel", "paper", "(II)V"⟩, 32) := ⟨⟨by decide +kernel, by decide +kernel⟩, List.mem_of_getElem? (i := 436) (by decide +kernel), List.mem_of_getElem? (i := 612) (by decide +kernel), List.mem_of_getElem? (i := 613) (by decide +kernel)⟩
theorem lw_p40 : lw_okq (⟨"GroupLogModel", "keep", "(II)I"⟩, 32) := ⟨⟨by decide +kernel, by decide +kernel⟩, List.mem_of_getElem? (i := 436) (by decide +kernel), List.mem_of_getElem? (i := 616) (by decide +kernel), List.mem_of_getElem? (i := 617) (by decide +kernel)⟩
theorem lw_p41 : lw_okq (⟨"GroupLogModel", "response", "(II)V"⟩, 32) := ⟨⟨by decide +kernel, by decide +kernel⟩, List.mem_of_getElem? (i := 436) (by decide +kernel), List.mem_of_getElem? (i := 620) (by decide +kernel), List.mem_of_getElem? (i := 621) (by decide +kernel)⟩
theorem lw_p42 : lw_okq (⟨"GroupLogModel", "isReplica", "(I)Z"⟩, 32) := ⟨⟨by decide +kernel, by decide +kernel⟩, List.mem_of_getElem? (i := 436) (by decide +kernel), List.mem_of_getElem? (i := 632) (by decide +kernel), List.mem_of_getElem? (i := 633) (by decide +kernel)⟩
theorem lw_p43 : lw_okq (⟨"GroupLogModel", "fresh", "(I)V"⟩, 32) := ⟨⟨by decide +kernel, by decide +kernel⟩, List.mem_of_getElem? (i := 436) (by decide +kernel), List.mem_of_getElem? (i := 648) (by decide +kernel), List.mem_of_getElem? (i := 649) (by decide +kernel)⟩
def lw_privs_3 : List (MethodName × Nat) := [(⟨"GroupLogModel", "answerTo", "(II)V"⟩, 32), (⟨"GroupLogModel", "sum", "(II)I"⟩, 32), (⟨"GroupLogModel", "state", "(I)V"⟩, 32), (⟨"GroupLogModel", "forget", "(I)V"⟩, 32), (⟨"GroupLogModel", "change", "(II)V"⟩, 32), (⟨"GroupLogModel", "start", "(II)V"⟩, 32), (⟨"GroupLogModel", "sendAll", "(II)V"⟩, 32), (⟨"GroupLogModel", "paper", "(II)V"⟩, 32), (⟨"GroupLogModel", "keep", "(II)I"⟩, 32), (⟨"GroupLogModel", "response", "(II)V"⟩, 32), (⟨"GroupLogModel", "isReplica", "(I)Z"⟩, 32), (⟨"GroupLogModel", "fresh", "(I)V"⟩, 32)]
theorem lw_r3 : ∀ q ∈ lw_privs_3, lw_okq q := List.forall_mem_cons.mpr ⟨lw_p32, List.forall_mem_cons.mpr ⟨lw_p33, List.forall_mem_cons.mpr ⟨lw_p34, List.forall_mem_cons.mpr ⟨lw_p35, List.forall_mem_cons.mpr ⟨lw_p36, List.forall_mem_cons.mpr ⟨lw_p37, List.forall_mem_cons.mpr ⟨lw_p38, List.forall_mem_cons.mpr ⟨lw_p39, List.forall_mem_cons.mpr ⟨lw_p40, List.forall_mem_cons.mpr ⟨lw_p41, List.forall_mem_cons.mpr ⟨lw_p42, List.forall_mem_cons.mpr ⟨lw_p43, fun _ h => absurd h List.not_mem_nil⟩⟩⟩⟩⟩⟩⟩⟩⟩⟩⟩⟩
def lw_privs : List (MethodName × Nat) := lw_privs_1 ++ (lw_privs_2 ++ (lw_privs_3))
def lw_tbl : List Cond := k2_sels lw_privs ++ tables_1
theorem lw_privs_ok : ∀ q ∈ lw_privs, lw_okq q := by
  show ∀ q ∈ lw_privs_1 ++ (lw_privs_2 ++ (lw_privs_3)), lw_okq q
  exact List.forall_mem_append.mpr ⟨lw_r1, List.forall_mem_append.mpr ⟨lw_r2, lw_r3⟩⟩
def TB : List Cond := lw_tbl.filter goodWord
theorem tb_good : TB.all goodWord = true := List.all_eq_true.mpr (fun w hw => (List.mem_filter.mp hw).2)
end
section
def R_L : String := "GroupLog$Log"
def T_L : u_T := fun k => match k with
  | 0 => ("GroupLog$Log", "before", "LGroupLog$Log;", true)
  | 1 => ("GroupLog$Log", "size", "I", true)
  | 2 => ("GroupLog$Log", "client", "I", true)
  | 3 => ("GroupLog$Log", "number", "I", true)
  | 4 => ("GroupLog$Log", "value", "I", true)
  | _ => ("GroupLog$Log", "total", "I", true)
def y_L : Nat → FieldType := fun k => match k with
  | 0 => .object "GroupLog$Log"
  | 1 => .int
  | 2 => .int
  | 3 => .int
  | 4 => .int
  | _ => .int
theorem nm_L : ∀ a, a < 6 → ∀ b, b < 6 → a ≠ b → (T_L a).2.1 ≠ (T_L b).2.1 := by decide +kernel
theorem ty_L : ∀ k, k < 6 → parseFieldDescriptor (T_L k).2.2.1 = some (y_L k) := by decide +kernel
theorem in_L : ∀ w ∈ u_ws R_L T_L 6, w ∈ TB := fun w hw => List.mem_filter.mpr ⟨(by decide +kernel : ∀ w ∈ u_ws R_L T_L 6, w ∈ lw_tbl) w hw, (by decide +kernel : ∀ w ∈ u_ws R_L T_L 6, goodWord w = true) w hw⟩
abbrev df_L : List Value := [.null, .int 0, .int 0, .int 0, .int 0, .int 0]
theorem dv_L : ∀ j, j < 6 → defaultValue (y_L j) = vp_V df_L j := by decide +kernel
def R_E : String := "GroupLog$Message"
def T_E : u_T := fun k => match k with
  | 0 => ("GroupLog$Message", "kind", "I", true)
  | 1 => ("GroupLog$Message", "sender", "I", true)
  | 2 => ("GroupLog$Message", "addressee", "I", true)
  | 3 => ("GroupLog$Message", "view", "I", true)
  | 4 => ("GroupLog$Message", "lastView", "I", true)
  | 5 => ("GroupLog$Message", "vector", "[I", true)
  | 6 => ("GroupLog$Message", "log", "LGroupLog$Log;", true)
  | _ => ("GroupLog$Message", "commit", "I", true)
def y_E : Nat → FieldType := fun k => match k with
  | 0 => .int
  | 1 => .int
  | 2 => .int
  | 3 => .int
  | 4 => .int
  | 5 => .array .int
  | 6 => .object "GroupLog$Log"
  | _ => .int
theorem nm_E : ∀ a, a < 8 → ∀ b, b < 8 → a ≠ b → (T_E a).2.1 ≠ (T_E b).2.1 := by decide +kernel
theorem ty_E : ∀ k, k < 8 → parseFieldDescriptor (T_E k).2.2.1 = some (y_E k) := by decide +kernel
theorem in_E : ∀ w ∈ u_ws R_E T_E 8, w ∈ TB := fun w hw => List.mem_filter.mpr ⟨(by decide +kernel : ∀ w ∈ u_ws R_E T_E 8, w ∈ lw_tbl) w hw, (by decide +kernel : ∀ w ∈ u_ws R_E T_E 8, goodWord w = true) w hw⟩
abbrev df_E : List Value := [.int 0, .int 0, .int 0, .int 0, .int 0, .null, .null, .int 0]
theorem dv_E : ∀ j, j < 8 → defaultValue (y_E j) = vp_V df_E j := by decide +kernel
def R_P : String := "GroupLog$Replica"
def T_P : u_T := fun k => match k with
  | 0 => ("GroupLog$Replica", "id", "I", true)
  | 1 => ("GroupLog$Replica", "status", "I", false)
  | 2 => ("GroupLog$Replica", "view", "I", false)
  | 3 => ("GroupLog$Replica", "lastView", "I", false)
  | 4 => ("GroupLog$Replica", "log", "LGroupLog$Log;", false)
  | 5 => ("GroupLog$Replica", "commit", "I", false)
  | 6 => ("GroupLog$Replica", "vector", "[I", false)
  | 7 => ("GroupLog$Replica", "acked", "[I", true)
  | 8 => ("GroupLog$Replica", "paperSent", "Z", false)
  | 9 => ("GroupLog$Replica", "votes", "[LGroupLog$Message;", true)
  | 10 => ("GroupLog$Replica", "papers", "[LGroupLog$Message;", true)
  | 11 => ("GroupLog$Replica", "responses", "[LGroupLog$Message;", true)
  | _ => ("GroupLog$Replica", "greatestNonce", "I", false)
def y_P : Nat → FieldType := fun k => match k with
  | 0 => .int
  | 1 => .int
  | 2 => .int
  | 3 => .int
  | 4 => .object "GroupLog$Log"
  | 5 => .int
  | 6 => .array .int
  | 7 => .array .int
  | 8 => .boolean
  | 9 => .array (.object "GroupLog$Message")
  | 10 => .array (.object "GroupLog$Message")
  | 11 => .array (.object "GroupLog$Message")
  | _ => .int
theorem nm_P : ∀ a, a < 13 → ∀ b, b < 13 → a ≠ b → (T_P a).2.1 ≠ (T_P b).2.1 := by decide +kernel
theorem ty_P : ∀ k, k < 13 → parseFieldDescriptor (T_P k).2.2.1 = some (y_P k) := by decide +kernel
theorem in_P : ∀ w ∈ u_ws R_P T_P 13, w ∈ TB := fun w hw => List.mem_filter.mpr ⟨(by decide +kernel : ∀ w ∈ u_ws R_P T_P 13, w ∈ lw_tbl) w hw, (by decide +kernel : ∀ w ∈ u_ws R_P T_P 13, goodWord w = true) w hw⟩
abbrev df_P : List Value := [.int 0, .int 0, .int 0, .int 0, .null, .int 0, .null, .null, .int 0, .null, .null, .null, .int 0]
theorem dv_P : ∀ j, j < 13 → defaultValue (y_P j) = vp_V df_P j := by decide +kernel
def R_G : String := "GroupLog"
def T_G : u_T := fun k => match k with
  | 0 => ("GroupLog", "replicaCount", "I", true)
  | 1 => ("GroupLog", "faults", "I", true)
  | 2 => ("GroupLog", "replicas", "[LGroupLog$Replica;", true)
  | 3 => ("GroupLog", "latestMessages", "[LGroupLog$Message;", true)
  | 4 => ("GroupLog", "sentCount", "I", false)
  | 5 => ("GroupLog", "latestNext", "I", false)
  | 6 => ("GroupLog", "clientNumber", "[I", true)
  | _ => ("GroupLog", "clientAnswer", "[I", true)
def y_G : Nat → FieldType := fun k => match k with
  | 0 => .int
  | 1 => .int
  | 2 => .array (.object "GroupLog$Replica")
  | 3 => .array (.object "GroupLog$Message")
  | 4 => .int
  | 5 => .int
  | 6 => .array .int
  | _ => .array .int
theorem nm_G : ∀ a, a < 8 → ∀ b, b < 8 → a ≠ b → (T_G a).2.1 ≠ (T_G b).2.1 := by decide +kernel
theorem ty_G : ∀ k, k < 8 → parseFieldDescriptor (T_G k).2.2.1 = some (y_G k) := by decide +kernel
theorem in_G : ∀ w ∈ u_ws R_G T_G 8, w ∈ TB := fun w hw => List.mem_filter.mpr ⟨(by decide +kernel : ∀ w ∈ u_ws R_G T_G 8, w ∈ lw_tbl) w hw, (by decide +kernel : ∀ w ∈ u_ws R_G T_G 8, goodWord w = true) w hw⟩
abbrev df_G : List Value := [.int 0, .int 0, .null, .null, .int 0, .int 0, .null, .null]
theorem dv_G : ∀ j, j < 8 → defaultValue (y_G j) = vp_V df_G j := by decide +kernel
def R_Q : String := "GroupLogModel"
def T_Q : u_T := fun k => match k with
  | 0 => ("GroupLogModel", "n", "I", true)
  | 1 => ("GroupLogModel", "f", "I", true)
  | 2 => ("GroupLogModel", "size", "[I", true)
  | 3 => ("GroupLogModel", "client", "[I", true)
  | 4 => ("GroupLogModel", "number", "[I", true)
  | 5 => ("GroupLogModel", "value", "[I", true)
  | 6 => ("GroupLogModel", "status", "[I", true)
  | 7 => ("GroupLogModel", "view", "[I", true)
  | 8 => ("GroupLogModel", "last", "[I", true)
  | 9 => ("GroupLogModel", "commit", "[I", true)
  | 10 => ("GroupLogModel", "vector", "[I", true)
  | 11 => ("GroupLogModel", "acked", "[I", true)
  | 12 => ("GroupLogModel", "paperSent", "[Z", true)
  | 13 => ("GroupLogModel", "nonces", "[I", true)
  | 14 => ("GroupLogModel", "vote", "[Z", true)
  | 15 => ("GroupLogModel", "voteMark", "[I", true)
  | 16 => ("GroupLogModel", "sheet", "[Z", true)
  | 17 => ("GroupLogModel", "sheetMark", "[I", true)
  | 18 => ("GroupLogModel", "sheetView", "[I", true)
  | 19 => ("GroupLogModel", "sheetLast", "[I", true)
  | 20 => ("GroupLogModel", "sheetCommit", "[I", true)
  | 21 => ("GroupLogModel", "from", "[I", true)
  | 22 => ("GroupLogModel", "to", "[I", true)
  | 23 => ("GroupLogModel", "kind", "[I", true)
  | 24 => ("GroupLogModel", "at", "[I", true)
  | 25 => ("GroupLogModel", "old", "[I", true)
  | 26 => ("GroupLogModel", "done", "[I", true)
  | 27 => ("GroupLogModel", "stamp", "[I", true)
  | 28 => ("GroupLogModel", "sent", "I", false)
  | 29 => ("GroupLogModel", "latest", "I", false)
  | 30 => ("GroupLogModel", "replyNumber", "[I", true)
  | _ => ("GroupLogModel", "reply", "[I", true)
def y_Q : Nat → FieldType := fun k => match k with
  | 0 => .int
  | 1 => .int
  | 2 => .array .int
  | 3 => .array .int
  | 4 => .array .int
  | 5 => .array .int
  | 6 => .array .int
  | 7 => .array .int
  | 8 => .array .int
  | 9 => .array .int
  | 10 => .array .int
  | 11 => .array .int
  | 12 => .array .boolean
  | 13 => .array .int
  | 14 => .array .boolean
  | 15 => .array .int
  | 16 => .array .boolean
  | 17 => .array .int
  | 18 => .array .int
  | 19 => .array .int
  | 20 => .array .int
  | 21 => .array .int
  | 22 => .array .int
  | 23 => .array .int
  | 24 => .array .int
  | 25 => .array .int
  | 26 => .array .int
  | 27 => .array .int
  | 28 => .int
  | 29 => .int
  | 30 => .array .int
  | _ => .array .int
theorem nm_Q : ∀ a, a < 32 → ∀ b, b < 32 → a ≠ b → (T_Q a).2.1 ≠ (T_Q b).2.1 := by decide +kernel
theorem ty_Q : ∀ k, k < 32 → parseFieldDescriptor (T_Q k).2.2.1 = some (y_Q k) := by decide +kernel
theorem in_Q : ∀ w ∈ u_ws R_Q T_Q 32, w ∈ TB := fun w hw => List.mem_filter.mpr ⟨(by decide +kernel : ∀ w ∈ u_ws R_Q T_Q 32, w ∈ lw_tbl) w hw, (by decide +kernel : ∀ w ∈ u_ws R_Q T_Q 32, goodWord w = true) w hw⟩
abbrev df_Q : List Value := [.int 0, .int 0, .null, .null, .null, .null, .null, .null, .null, .null, .null, .null, .null, .null, .null, .null, .null, .null, .null, .null, .null, .null, .null, .null, .null, .null, .null, .null, .int 0, .int 0, .null, .null]
theorem dv_Q : ∀ j, j < 32 → defaultValue (y_Q j) = vp_V df_Q j := by decide +kernel
abbrev Cl : List vw_C := [(R_L, T_L, 6), (R_E, T_E, 8), (R_P, T_P, 13), (R_G, T_G, 8), (R_Q, T_Q, 32)]
abbrev tysL (cid : Nat → ClassId) : List (ClassId × FieldType) := [(cid 0, .int), (cid 1, .boolean), (cid 2, .object "GroupLog$Message"), (cid 3, .object "GroupLog$Replica")]
theorem k_0 : Cond.selects "GroupLog" ⟨"GroupLog", "isReplica", "(I)Z"⟩ ⟨"GroupLog", "isReplica", "(I)Z"⟩ ∈ TB := List.mem_filter.mpr ⟨List.mem_of_getElem? (i := 0) (by decide +kernel), by decide +kernel⟩
theorem k_1 : Cond.selects "GroupLog" ⟨"GroupLog", "leads", "(LGroupLog$Replica;)Z"⟩ ⟨"GroupLog", "leads", "(LGroupLog$Replica;)Z"⟩ ∈ TB := List.mem_filter.mpr ⟨List.mem_of_getElem? (i := 1) (by decide +kernel), by decide +kernel⟩
theorem k_2 : Cond.selects "GroupLog" ⟨"GroupLog", "primaryOf", "(I)I"⟩ ⟨"GroupLog", "primaryOf", "(I)I"⟩ ∈ TB := List.mem_filter.mpr ⟨List.mem_of_getElem? (i := 2) (by decide +kernel), by decide +kernel⟩
theorem k_3 : Cond.selects "GroupLog" ⟨"GroupLog", "repeatAnswer", "(LGroupLog$Replica;LGroupLog$Log;)I"⟩ ⟨"GroupLog", "repeatAnswer", "(LGroupLog$Replica;LGroupLog$Log;)I"⟩ ∈ TB := List.mem_filter.mpr ⟨List.mem_of_getElem? (i := 3) (by decide +kernel), by decide +kernel⟩
theorem k_4 : Cond.selects "GroupLog" ⟨"GroupLog", "answerClient", "(LGroupLog$Log;)V"⟩ ⟨"GroupLog", "answerClient", "(LGroupLog$Log;)V"⟩ ∈ TB := List.mem_filter.mpr ⟨List.mem_of_getElem? (i := 4) (by decide +kernel), by decide +kernel⟩
theorem k_5 : Cond.selects "GroupLog" ⟨"GroupLog", "sendToAll", "(LGroupLog$Replica;I)V"⟩ ⟨"GroupLog", "sendToAll", "(LGroupLog$Replica;I)V"⟩ ∈ TB := List.mem_filter.mpr ⟨List.mem_of_getElem? (i := 5) (by decide +kernel), by decide +kernel⟩
theorem k_6 : Cond.selects "GroupLog" ⟨"GroupLog", "send", "(LGroupLog$Replica;II)V"⟩ ⟨"GroupLog", "send", "(LGroupLog$Replica;II)V"⟩ ∈ TB := List.mem_filter.mpr ⟨List.mem_of_getElem? (i := 6) (by decide +kernel), by decide +kernel⟩
theorem k_7 : Cond.selects "GroupLog" ⟨"GroupLog", "findMessage", "(I)LGroupLog$Message;"⟩ ⟨"GroupLog", "findMessage", "(I)LGroupLog$Message;"⟩ ∈ TB := List.mem_filter.mpr ⟨List.mem_of_getElem? (i := 7) (by decide +kernel), by decide +kernel⟩
theorem k_8 : Cond.selects "GroupLog" ⟨"GroupLog", "receive", "(LGroupLog$Message;)I"⟩ ⟨"GroupLog", "receive", "(LGroupLog$Message;)I"⟩ ∈ TB := List.mem_filter.mpr ⟨List.mem_of_getElem? (i := 8) (by decide +kernel), by decide +kernel⟩
theorem k_9 : Cond.selects "GroupLog$Replica" ⟨"GroupLog$Replica", "dropOutdated", "([LGroupLog$Message;)V"⟩ ⟨"GroupLog$Replica", "dropOutdated", "([LGroupLog$Message;)V"⟩ ∈ TB := List.mem_filter.mpr ⟨List.mem_of_getElem? (i := 9) (by decide +kernel), by decide +kernel⟩
theorem k_10 : Cond.selects "GroupLog" ⟨"GroupLog", "takePrepare", "(LGroupLog$Replica;LGroupLog$Message;)V"⟩ ⟨"GroupLog", "takePrepare", "(LGroupLog$Replica;LGroupLog$Message;)V"⟩ ∈ TB := List.mem_filter.mpr ⟨List.mem_of_getElem? (i := 10) (by decide +kernel), by decide +kernel⟩
theorem k_11 : Cond.selects "GroupLog" ⟨"GroupLog", "takeOk", "(LGroupLog$Replica;LGroupLog$Message;)V"⟩ ⟨"GroupLog", "takeOk", "(LGroupLog$Replica;LGroupLog$Message;)V"⟩ ∈ TB := List.mem_filter.mpr ⟨List.mem_of_getElem? (i := 11) (by decide +kernel), by decide +kernel⟩
theorem k_12 : Cond.selects "GroupLog$Replica" ⟨"GroupLog$Replica", "countAcked", "(I)I"⟩ ⟨"GroupLog$Replica", "countAcked", "(I)I"⟩ ∈ TB := List.mem_filter.mpr ⟨List.mem_of_getElem? (i := 12) (by decide +kernel), by decide +kernel⟩
theorem k_13 : Cond.selects "GroupLog" ⟨"GroupLog", "replyIfNormal", "(LGroupLog$Replica;LGroupLog$Message;I)V"⟩ ⟨"GroupLog", "replyIfNormal", "(LGroupLog$Replica;LGroupLog$Message;I)V"⟩ ∈ TB := List.mem_filter.mpr ⟨List.mem_of_getElem? (i := 13) (by decide +kernel), by decide +kernel⟩
theorem k_14 : Cond.selects "GroupLog" ⟨"GroupLog", "takeState", "(LGroupLog$Replica;LGroupLog$Message;)V"⟩ ⟨"GroupLog", "takeState", "(LGroupLog$Replica;LGroupLog$Message;)V"⟩ ∈ TB := List.mem_filter.mpr ⟨List.mem_of_getElem? (i := 14) (by decide +kernel), by decide +kernel⟩
theorem k_15 : Cond.selects "GroupLog" ⟨"GroupLog", "joinChange", "(LGroupLog$Replica;LGroupLog$Message;)Z"⟩ ⟨"GroupLog", "joinChange", "(LGroupLog$Replica;LGroupLog$Message;)Z"⟩ ∈ TB := List.mem_filter.mpr ⟨List.mem_of_getElem? (i := 15) (by decide +kernel), by decide +kernel⟩
theorem k_16 : Cond.selects "GroupLog" ⟨"GroupLog", "startChanging", "(LGroupLog$Replica;I)V"⟩ ⟨"GroupLog", "startChanging", "(LGroupLog$Replica;I)V"⟩ ∈ TB := List.mem_filter.mpr ⟨List.mem_of_getElem? (i := 16) (by decide +kernel), by decide +kernel⟩
theorem k_17 : Cond.selects "GroupLog" ⟨"GroupLog", "keepVote", "(LGroupLog$Replica;LGroupLog$Message;)V"⟩ ⟨"GroupLog", "keepVote", "(LGroupLog$Replica;LGroupLog$Message;)V"⟩ ∈ TB := List.mem_filter.mpr ⟨List.mem_of_getElem? (i := 17) (by decide +kernel), by decide +kernel⟩
theorem k_18 : Cond.selects "GroupLog" ⟨"GroupLog", "keepPaper", "(LGroupLog$Replica;LGroupLog$Message;)V"⟩ ⟨"GroupLog", "keepPaper", "(LGroupLog$Replica;LGroupLog$Message;)V"⟩ ∈ TB := List.mem_filter.mpr ⟨List.mem_of_getElem? (i := 18) (by decide +kernel), by decide +kernel⟩
theorem k_19 : Cond.selects "GroupLog" ⟨"GroupLog", "keepResponse", "(LGroupLog$Replica;LGroupLog$Message;)V"⟩ ⟨"GroupLog", "keepResponse", "(LGroupLog$Replica;LGroupLog$Message;)V"⟩ ∈ TB := List.mem_filter.mpr ⟨List.mem_of_getElem? (i := 19) (by decide +kernel), by decide +kernel⟩
theorem k_20 : Cond.selects "GroupLog" ⟨"GroupLog", "othersLost", "(LGroupLog$Replica;)I"⟩ ⟨"GroupLog", "othersLost", "(LGroupLog$Replica;)I"⟩ ∈ TB := List.mem_filter.mpr ⟨List.mem_of_getElem? (i := 20) (by decide +kernel), by decide +kernel⟩
theorem k_21 : Cond.selects "GroupLog" ⟨"GroupLog", "hasEntry", "(II)Z"⟩ ⟨"GroupLog", "hasEntry", "(II)Z"⟩ ∈ TB := List.mem_filter.mpr ⟨List.mem_of_getElem? (i := 21) (by decide +kernel), by decide +kernel⟩
theorem k_22 : Cond.selects "GroupLogModel" ⟨"GroupLogModel", "there", "(I)Z"⟩ ⟨"GroupLogModel", "there", "(I)Z"⟩ ∈ TB := List.mem_filter.mpr ⟨List.mem_of_getElem? (i := 22) (by decide +kernel), by decide +kernel⟩
theorem k_23 : Cond.selects "GroupLogModel" ⟨"GroupLogModel", "receive", "(I)I"⟩ ⟨"GroupLogModel", "receive", "(I)I"⟩ ∈ TB := List.mem_filter.mpr ⟨List.mem_of_getElem? (i := 23) (by decide +kernel), by decide +kernel⟩
theorem k_24 : Cond.selects "GroupLogModel" ⟨"GroupLogModel", "copy", "(II)V"⟩ ⟨"GroupLogModel", "copy", "(II)V"⟩ ∈ TB := List.mem_filter.mpr ⟨List.mem_of_getElem? (i := 24) (by decide +kernel), by decide +kernel⟩
theorem k_25 : Cond.selects "GroupLogModel" ⟨"GroupLogModel", "learn", "(I)V"⟩ ⟨"GroupLogModel", "learn", "(I)V"⟩ ∈ TB := List.mem_filter.mpr ⟨List.mem_of_getElem? (i := 25) (by decide +kernel), by decide +kernel⟩
theorem k_26 : Cond.selects "GroupLogModel" ⟨"GroupLogModel", "act", "(II)V"⟩ ⟨"GroupLogModel", "act", "(II)V"⟩ ∈ TB := List.mem_filter.mpr ⟨List.mem_of_getElem? (i := 26) (by decide +kernel), by decide +kernel⟩
theorem k_27 : Cond.selects "GroupLogModel" ⟨"GroupLogModel", "prepare", "(II)V"⟩ ⟨"GroupLogModel", "prepare", "(II)V"⟩ ∈ TB := List.mem_filter.mpr ⟨List.mem_of_getElem? (i := 27) (by decide +kernel), by decide +kernel⟩
theorem k_28 : Cond.selects "GroupLogModel" ⟨"GroupLogModel", "send", "(III)V"⟩ ⟨"GroupLogModel", "send", "(III)V"⟩ ∈ TB := List.mem_filter.mpr ⟨List.mem_of_getElem? (i := 28) (by decide +kernel), by decide +kernel⟩
theorem k_29 : Cond.selects "GroupLogModel" ⟨"GroupLogModel", "append", "(IIII)V"⟩ ⟨"GroupLogModel", "append", "(IIII)V"⟩ ∈ TB := List.mem_filter.mpr ⟨List.mem_of_getElem? (i := 29) (by decide +kernel), by decide +kernel⟩
theorem k_30 : Cond.selects "GroupLogModel" ⟨"GroupLogModel", "ok", "(II)V"⟩ ⟨"GroupLogModel", "ok", "(II)V"⟩ ∈ TB := List.mem_filter.mpr ⟨List.mem_of_getElem? (i := 30) (by decide +kernel), by decide +kernel⟩
theorem k_31 : Cond.selects "GroupLogModel" ⟨"GroupLogModel", "leads", "(I)Z"⟩ ⟨"GroupLogModel", "leads", "(I)Z"⟩ ∈ TB := List.mem_filter.mpr ⟨List.mem_of_getElem? (i := 31) (by decide +kernel), by decide +kernel⟩
theorem k_32 : Cond.selects "GroupLogModel" ⟨"GroupLogModel", "answerTo", "(II)V"⟩ ⟨"GroupLogModel", "answerTo", "(II)V"⟩ ∈ TB := List.mem_filter.mpr ⟨List.mem_of_getElem? (i := 32) (by decide +kernel), by decide +kernel⟩
theorem k_33 : Cond.selects "GroupLogModel" ⟨"GroupLogModel", "sum", "(II)I"⟩ ⟨"GroupLogModel", "sum", "(II)I"⟩ ∈ TB := List.mem_filter.mpr ⟨List.mem_of_getElem? (i := 33) (by decide +kernel), by decide +kernel⟩
theorem k_34 : Cond.selects "GroupLogModel" ⟨"GroupLogModel", "state", "(I)V"⟩ ⟨"GroupLogModel", "state", "(I)V"⟩ ∈ TB := List.mem_filter.mpr ⟨List.mem_of_getElem? (i := 34) (by decide +kernel), by decide +kernel⟩
theorem k_35 : Cond.selects "GroupLogModel" ⟨"GroupLogModel", "forget", "(I)V"⟩ ⟨"GroupLogModel", "forget", "(I)V"⟩ ∈ TB := List.mem_filter.mpr ⟨List.mem_of_getElem? (i := 35) (by decide +kernel), by decide +kernel⟩
theorem k_36 : Cond.selects "GroupLogModel" ⟨"GroupLogModel", "change", "(II)V"⟩ ⟨"GroupLogModel", "change", "(II)V"⟩ ∈ TB := List.mem_filter.mpr ⟨List.mem_of_getElem? (i := 36) (by decide +kernel), by decide +kernel⟩
theorem k_37 : Cond.selects "GroupLogModel" ⟨"GroupLogModel", "start", "(II)V"⟩ ⟨"GroupLogModel", "start", "(II)V"⟩ ∈ TB := List.mem_filter.mpr ⟨List.mem_of_getElem? (i := 37) (by decide +kernel), by decide +kernel⟩
theorem k_38 : Cond.selects "GroupLogModel" ⟨"GroupLogModel", "sendAll", "(II)V"⟩ ⟨"GroupLogModel", "sendAll", "(II)V"⟩ ∈ TB := List.mem_filter.mpr ⟨List.mem_of_getElem? (i := 38) (by decide +kernel), by decide +kernel⟩
theorem k_39 : Cond.selects "GroupLogModel" ⟨"GroupLogModel", "paper", "(II)V"⟩ ⟨"GroupLogModel", "paper", "(II)V"⟩ ∈ TB := List.mem_filter.mpr ⟨List.mem_of_getElem? (i := 39) (by decide +kernel), by decide +kernel⟩
theorem k_40 : Cond.selects "GroupLogModel" ⟨"GroupLogModel", "keep", "(II)I"⟩ ⟨"GroupLogModel", "keep", "(II)I"⟩ ∈ TB := List.mem_filter.mpr ⟨List.mem_of_getElem? (i := 40) (by decide +kernel), by decide +kernel⟩
theorem k_41 : Cond.selects "GroupLogModel" ⟨"GroupLogModel", "response", "(II)V"⟩ ⟨"GroupLogModel", "response", "(II)V"⟩ ∈ TB := List.mem_filter.mpr ⟨List.mem_of_getElem? (i := 41) (by decide +kernel), by decide +kernel⟩
theorem k_42 : Cond.selects "GroupLogModel" ⟨"GroupLogModel", "isReplica", "(I)Z"⟩ ⟨"GroupLogModel", "isReplica", "(I)Z"⟩ ∈ TB := List.mem_filter.mpr ⟨List.mem_of_getElem? (i := 42) (by decide +kernel), by decide +kernel⟩
theorem k_43 : Cond.selects "GroupLogModel" ⟨"GroupLogModel", "fresh", "(I)V"⟩ ⟨"GroupLogModel", "fresh", "(I)V"⟩ ∈ TB := List.mem_filter.mpr ⟨List.mem_of_getElem? (i := 43) (by decide +kernel), by decide +kernel⟩
theorem k_45 : (Jvm.Cond.initialized "GroupLog") ∈ TB := List.mem_filter.mpr ⟨List.mem_of_getElem? (i := 45) (by decide +kernel), by decide +kernel⟩
theorem k_46 : (Jvm.Cond.initialized "GroupLog$Replica") ∈ TB := List.mem_filter.mpr ⟨List.mem_of_getElem? (i := 46) (by decide +kernel), by decide +kernel⟩
theorem k_47 : (Jvm.Cond.initialized "GroupLog$Log") ∈ TB := List.mem_filter.mpr ⟨List.mem_of_getElem? (i := 47) (by decide +kernel), by decide +kernel⟩
theorem k_48 : (Jvm.Cond.initialized "GroupLogModel") ∈ TB := List.mem_filter.mpr ⟨List.mem_of_getElem? (i := 48) (by decide +kernel), by decide +kernel⟩
theorem k_49 : (Jvm.Cond.initialized "java/lang/Math") ∈ TB := List.mem_filter.mpr ⟨List.mem_of_getElem? (i := 49) (by decide +kernel), by decide +kernel⟩
theorem k_50 : (Jvm.Cond.initialized "GroupLog$Message") ∈ TB := List.mem_filter.mpr ⟨List.mem_of_getElem? (i := 50) (by decide +kernel), by decide +kernel⟩
theorem k_56 : (Jvm.Cond.methodLink "GroupLog" (1 : Nat) ({ cls := "java/lang/Object", name := "<init>", desc := "()V" } : Jvm.MethodName)) ∈ TB := List.mem_filter.mpr ⟨List.mem_of_getElem? (i := 56) (by decide +kernel), by decide +kernel⟩
theorem k_57 : (Jvm.Cond.instanceMethod ({ cls := "java/lang/Object", name := "<init>", desc := "()V" } : Jvm.MethodName)) ∈ TB := List.mem_filter.mpr ⟨List.mem_of_getElem? (i := 57) (by decide +kernel), by decide +kernel⟩
theorem k_58 : (Jvm.Cond.code ({ cls := "java/lang/Object", name := "<init>", desc := "()V" } : Jvm.MethodName) object_method_1_code (1 : Nat) (Option.none : Option Jvm.ClassFile.FieldType)) ∈ TB := List.mem_filter.mpr ⟨List.mem_of_getElem? (i := 58) (by decide +kernel), by decide +kernel⟩
theorem k_59 : (Jvm.Cond.classLink "GroupLog" (9 : Nat) "GroupLog$Message") ∈ TB := List.mem_filter.mpr ⟨List.mem_of_getElem? (i := 59) (by decide +kernel), by decide +kernel⟩
theorem k_61 : (Jvm.Cond.classLink "GroupLog" (35 : Nat) "GroupLog$Replica") ∈ TB := List.mem_filter.mpr ⟨List.mem_of_getElem? (i := 61) (by decide +kernel), by decide +kernel⟩
theorem k_63 : (Jvm.Cond.instantiable "GroupLog$Replica" (13 : Nat)) ∈ TB := List.mem_filter.mpr ⟨List.mem_of_getElem? (i := 63) (by decide +kernel), by decide +kernel⟩
theorem k_64 : (Jvm.Cond.methodLink "GroupLog" (41 : Nat) ({ cls := "GroupLog$Replica", name := "<init>", desc := "(II)V" } : Jvm.MethodName)) ∈ TB := List.mem_filter.mpr ⟨List.mem_of_getElem? (i := 64) (by decide +kernel), by decide +kernel⟩
theorem k_65 : (Jvm.Cond.instanceMethod ({ cls := "GroupLog$Replica", name := "<init>", desc := "(II)V" } : Jvm.MethodName)) ∈ TB := List.mem_filter.mpr ⟨List.mem_of_getElem? (i := 65) (by decide +kernel), by decide +kernel⟩
theorem k_66 : (Jvm.Cond.code ({ cls := "GroupLog$Replica", name := "<init>", desc := "(II)V" } : Jvm.MethodName) prog_4_method_1_code (3 : Nat) (Option.none : Option Jvm.ClassFile.FieldType)) ∈ TB := List.mem_filter.mpr ⟨List.mem_of_getElem? (i := 66) (by decide +kernel), by decide +kernel⟩
theorem k_67 : (Jvm.Cond.methodLink "GroupLog$Replica" (3 : Nat) ({ cls := "java/lang/Object", name := "<init>", desc := "()V" } : Jvm.MethodName)) ∈ TB := List.mem_filter.mpr ⟨List.mem_of_getElem? (i := 67) (by decide +kernel), by decide +kernel⟩
theorem k_68 : (Jvm.Cond.classLink "GroupLog$Replica" (21 : Nat) "GroupLog$Log") ∈ TB := List.mem_filter.mpr ⟨List.mem_of_getElem? (i := 68) (by decide +kernel), by decide +kernel⟩
theorem k_69 : (Jvm.Cond.instantiable "GroupLog$Log" (6 : Nat)) ∈ TB := List.mem_filter.mpr ⟨List.mem_of_getElem? (i := 69) (by decide +kernel), by decide +kernel⟩
theorem k_70 : (Jvm.Cond.methodLink "GroupLog$Replica" (23 : Nat) ({ cls := "GroupLog$Log", name := "<init>", desc := "()V" } : Jvm.MethodName)) ∈ TB := List.mem_filter.mpr ⟨List.mem_of_getElem? (i := 70) (by decide +kernel), by decide +kernel⟩
theorem k_71 : (Jvm.Cond.instanceMethod ({ cls := "GroupLog$Log", name := "<init>", desc := "()V" } : Jvm.MethodName)) ∈ TB := List.mem_filter.mpr ⟨List.mem_of_getElem? (i := 71) (by decide +kernel), by decide +kernel⟩
theorem k_72 : (Jvm.Cond.code ({ cls := "GroupLog$Log", name := "<init>", desc := "()V" } : Jvm.MethodName) prog_2_method_1_code (1 : Nat) (Option.none : Option Jvm.ClassFile.FieldType)) ∈ TB := List.mem_filter.mpr ⟨List.mem_of_getElem? (i := 72) (by decide +kernel), by decide +kernel⟩
theorem k_73 : (Jvm.Cond.methodLink "GroupLog$Log" (1 : Nat) ({ cls := "java/lang/Object", name := "<init>", desc := "()V" } : Jvm.MethodName)) ∈ TB := List.mem_filter.mpr ⟨List.mem_of_getElem? (i := 73) (by decide +kernel), by decide +kernel⟩
theorem k_74 : (Jvm.Cond.fieldLink "GroupLog$Log" (7 : Nat) "GroupLog$Log" "before" "LGroupLog$Log;") ∈ TB := List.mem_filter.mpr ⟨List.mem_of_getElem? (i := 74) (by decide +kernel), by decide +kernel⟩
theorem k_75 : (Jvm.Cond.fieldLink "GroupLog$Log" (13 : Nat) "GroupLog$Log" "size" "I") ∈ TB := List.mem_filter.mpr ⟨List.mem_of_getElem? (i := 75) (by decide +kernel), by decide +kernel⟩
theorem k_76 : (Jvm.Cond.fieldLink "GroupLog" (73 : Nat) "GroupLog$Log" "size" "I") ∈ TB := List.mem_filter.mpr ⟨List.mem_of_getElem? (i := 76) (by decide +kernel), by decide +kernel⟩
theorem k_77 : (Jvm.Cond.fieldLink "GroupLog$Replica" (89 : Nat) "GroupLog$Log" "size" "I") ∈ TB := List.mem_filter.mpr ⟨List.mem_of_getElem? (i := 77) (by decide +kernel), by decide +kernel⟩
theorem k_78 : (Jvm.Cond.fieldLink "GroupLog$Log" (17 : Nat) "GroupLog$Log" "client" "I") ∈ TB := List.mem_filter.mpr ⟨List.mem_of_getElem? (i := 78) (by decide +kernel), by decide +kernel⟩
theorem k_79 : (Jvm.Cond.fieldLink "GroupLog" (142 : Nat) "GroupLog$Log" "client" "I") ∈ TB := List.mem_filter.mpr ⟨List.mem_of_getElem? (i := 79) (by decide +kernel), by decide +kernel⟩
theorem k_80 : (Jvm.Cond.fieldLink "GroupLog$Log" (20 : Nat) "GroupLog$Log" "number" "I") ∈ TB := List.mem_filter.mpr ⟨List.mem_of_getElem? (i := 80) (by decide +kernel), by decide +kernel⟩
theorem k_81 : (Jvm.Cond.fieldLink "GroupLog" (139 : Nat) "GroupLog$Log" "number" "I") ∈ TB := List.mem_filter.mpr ⟨List.mem_of_getElem? (i := 81) (by decide +kernel), by decide +kernel⟩
theorem k_82 : (Jvm.Cond.fieldLink "GroupLog$Log" (23 : Nat) "GroupLog$Log" "value" "I") ∈ TB := List.mem_filter.mpr ⟨List.mem_of_getElem? (i := 82) (by decide +kernel), by decide +kernel⟩
theorem k_83 : (Jvm.Cond.fieldLink "GroupLog" (136 : Nat) "GroupLog$Log" "value" "I") ∈ TB := List.mem_filter.mpr ⟨List.mem_of_getElem? (i := 83) (by decide +kernel), by decide +kernel⟩
theorem k_84 : (Jvm.Cond.fieldLink "GroupLog$Log" (26 : Nat) "GroupLog$Log" "total" "I") ∈ TB := List.mem_filter.mpr ⟨List.mem_of_getElem? (i := 84) (by decide +kernel), by decide +kernel⟩
theorem k_85 : (Jvm.Cond.fieldLink "GroupLog" (145 : Nat) "GroupLog$Log" "total" "I") ∈ TB := List.mem_filter.mpr ⟨List.mem_of_getElem? (i := 85) (by decide +kernel), by decide +kernel⟩
theorem k_99 : (Jvm.Cond.arrayClass Jvm.ClassFile.FieldType.int) ∈ TB := List.mem_filter.mpr ⟨List.mem_of_getElem? (i := 99) (by decide +kernel), by decide +kernel⟩
theorem k_100 : (Jvm.Cond.classLink "GroupLog$Replica" (48 : Nat) "GroupLog$Message") ∈ TB := List.mem_filter.mpr ⟨List.mem_of_getElem? (i := 100) (by decide +kernel), by decide +kernel⟩
theorem k_101 : (Jvm.Cond.fieldLink "GroupLog$Message" (13 : Nat) "GroupLog$Replica" "id" "I") ∈ TB := List.mem_filter.mpr ⟨List.mem_of_getElem? (i := 101) (by decide +kernel), by decide +kernel⟩
theorem k_102 : (Jvm.Cond.fieldLink "GroupLog$Replica" (38 : Nat) "GroupLog$Replica" "id" "I") ∈ TB := List.mem_filter.mpr ⟨List.mem_of_getElem? (i := 102) (by decide +kernel), by decide +kernel⟩
theorem k_103 : (Jvm.Cond.fieldLink "GroupLog" (122 : Nat) "GroupLog$Replica" "id" "I") ∈ TB := List.mem_filter.mpr ⟨List.mem_of_getElem? (i := 103) (by decide +kernel), by decide +kernel⟩
theorem k_104 : (Jvm.Cond.fieldLink "GroupLog$Replica" (9 : Nat) "GroupLog$Replica" "status" "I") ∈ TB := List.mem_filter.mpr ⟨List.mem_of_getElem? (i := 104) (by decide +kernel), by decide +kernel⟩
theorem k_105 : (Jvm.Cond.fieldLink "GroupLog" (97 : Nat) "GroupLog$Replica" "status" "I") ∈ TB := List.mem_filter.mpr ⟨List.mem_of_getElem? (i := 105) (by decide +kernel), by decide +kernel⟩
theorem k_106 : (Jvm.Cond.fieldLink "GroupLog$Replica" (15 : Nat) "GroupLog$Replica" "view" "I") ∈ TB := List.mem_filter.mpr ⟨List.mem_of_getElem? (i := 106) (by decide +kernel), by decide +kernel⟩
theorem k_107 : (Jvm.Cond.fieldLink "GroupLog$Message" (24 : Nat) "GroupLog$Replica" "view" "I") ∈ TB := List.mem_filter.mpr ⟨List.mem_of_getElem? (i := 107) (by decide +kernel), by decide +kernel⟩
theorem k_108 : (Jvm.Cond.fieldLink "GroupLog" (100 : Nat) "GroupLog$Replica" "view" "I") ∈ TB := List.mem_filter.mpr ⟨List.mem_of_getElem? (i := 108) (by decide +kernel), by decide +kernel⟩
theorem k_109 : (Jvm.Cond.fieldLink "GroupLog$Replica" (18 : Nat) "GroupLog$Replica" "lastView" "I") ∈ TB := List.mem_filter.mpr ⟨List.mem_of_getElem? (i := 109) (by decide +kernel), by decide +kernel⟩
theorem k_110 : (Jvm.Cond.fieldLink "GroupLog$Message" (28 : Nat) "GroupLog$Replica" "lastView" "I") ∈ TB := List.mem_filter.mpr ⟨List.mem_of_getElem? (i := 110) (by decide +kernel), by decide +kernel⟩
theorem k_111 : (Jvm.Cond.fieldLink "GroupLog$Replica" (24 : Nat) "GroupLog$Replica" "log" "LGroupLog$Log;") ∈ TB := List.mem_filter.mpr ⟨List.mem_of_getElem? (i := 111) (by decide +kernel), by decide +kernel⟩
theorem k_112 : (Jvm.Cond.fieldLink "GroupLog$Message" (37 : Nat) "GroupLog$Replica" "log" "LGroupLog$Log;") ∈ TB := List.mem_filter.mpr ⟨List.mem_of_getElem? (i := 112) (by decide +kernel), by decide +kernel⟩
theorem k_113 : (Jvm.Cond.fieldLink "GroupLog" (55 : Nat) "GroupLog$Replica" "log" "LGroupLog$Log;") ∈ TB := List.mem_filter.mpr ⟨List.mem_of_getElem? (i := 113) (by decide +kernel), by decide +kernel⟩
theorem k_114 : (Jvm.Cond.fieldLink "GroupLog$Replica" (28 : Nat) "GroupLog$Replica" "commit" "I") ∈ TB := List.mem_filter.mpr ⟨List.mem_of_getElem? (i := 114) (by decide +kernel), by decide +kernel⟩
theorem k_115 : (Jvm.Cond.fieldLink "GroupLog$Message" (42 : Nat) "GroupLog$Replica" "commit" "I") ∈ TB := List.mem_filter.mpr ⟨List.mem_of_getElem? (i := 115) (by decide +kernel), by decide +kernel⟩
theorem k_116 : (Jvm.Cond.fieldLink "GroupLog" (125 : Nat) "GroupLog$Replica" "commit" "I") ∈ TB := List.mem_filter.mpr ⟨List.mem_of_getElem? (i := 116) (by decide +kernel), by decide +kernel⟩
theorem k_117 : (Jvm.Cond.fieldLink "GroupLog$Message" (32 : Nat) "GroupLog$Replica" "vector" "[I") ∈ TB := List.mem_filter.mpr ⟨List.mem_of_getElem? (i := 117) (by decide +kernel), by decide +kernel⟩
theorem k_118 : (Jvm.Cond.fieldLink "GroupLog$Replica" (41 : Nat) "GroupLog$Replica" "vector" "[I") ∈ TB := List.mem_filter.mpr ⟨List.mem_of_getElem? (i := 118) (by decide +kernel), by decide +kernel⟩
theorem k_119 : (Jvm.Cond.fieldLink "GroupLog" (119 : Nat) "GroupLog$Replica" "vector" "[I") ∈ TB := List.mem_filter.mpr ⟨List.mem_of_getElem? (i := 119) (by decide +kernel), by decide +kernel⟩
theorem k_120 : (Jvm.Cond.fieldLink "GroupLog$Replica" (45 : Nat) "GroupLog$Replica" "acked" "[I") ∈ TB := List.mem_filter.mpr ⟨List.mem_of_getElem? (i := 120) (by decide +kernel), by decide +kernel⟩
theorem k_121 : (Jvm.Cond.fieldLink "GroupLog" (220 : Nat) "GroupLog$Replica" "acked" "[I") ∈ TB := List.mem_filter.mpr ⟨List.mem_of_getElem? (i := 121) (by decide +kernel), by decide +kernel⟩
theorem k_122 : (Jvm.Cond.fieldLink "GroupLog$Replica" (31 : Nat) "GroupLog$Replica" "paperSent" "Z") ∈ TB := List.mem_filter.mpr ⟨List.mem_of_getElem? (i := 122) (by decide +kernel), by decide +kernel⟩
theorem k_123 : (Jvm.Cond.fieldLink "GroupLog" (233 : Nat) "GroupLog$Replica" "paperSent" "Z") ∈ TB := List.mem_filter.mpr ⟨List.mem_of_getElem? (i := 123) (by decide +kernel), by decide +kernel⟩
theorem k_124 : (Jvm.Cond.fieldLink "GroupLog$Replica" (50 : Nat) "GroupLog$Replica" "votes" "[LGroupLog$Message;") ∈ TB := List.mem_filter.mpr ⟨List.mem_of_getElem? (i := 124) (by decide +kernel), by decide +kernel⟩
theorem k_125 : (Jvm.Cond.fieldLink "GroupLog" (237 : Nat) "GroupLog$Replica" "votes" "[LGroupLog$Message;") ∈ TB := List.mem_filter.mpr ⟨List.mem_of_getElem? (i := 125) (by decide +kernel), by decide +kernel⟩
theorem k_126 : (Jvm.Cond.fieldLink "GroupLog$Replica" (54 : Nat) "GroupLog$Replica" "papers" "[LGroupLog$Message;") ∈ TB := List.mem_filter.mpr ⟨List.mem_of_getElem? (i := 126) (by decide +kernel), by decide +kernel⟩
theorem k_127 : (Jvm.Cond.fieldLink "GroupLog" (244 : Nat) "GroupLog$Replica" "papers" "[LGroupLog$Message;") ∈ TB := List.mem_filter.mpr ⟨List.mem_of_getElem? (i := 127) (by decide +kernel), by decide +kernel⟩
theorem k_128 : (Jvm.Cond.fieldLink "GroupLog$Replica" (57 : Nat) "GroupLog$Replica" "responses" "[LGroupLog$Message;") ∈ TB := List.mem_filter.mpr ⟨List.mem_of_getElem? (i := 128) (by decide +kernel), by decide +kernel⟩
theorem k_129 : (Jvm.Cond.fieldLink "GroupLog" (250 : Nat) "GroupLog$Replica" "responses" "[LGroupLog$Message;") ∈ TB := List.mem_filter.mpr ⟨List.mem_of_getElem? (i := 129) (by decide +kernel), by decide +kernel⟩
theorem k_130 : (Jvm.Cond.fieldLink "GroupLog$Replica" (35 : Nat) "GroupLog$Replica" "greatestNonce" "I") ∈ TB := List.mem_filter.mpr ⟨List.mem_of_getElem? (i := 130) (by decide +kernel), by decide +kernel⟩
theorem k_131 : (Jvm.Cond.fieldLink "GroupLog" (116 : Nat) "GroupLog$Replica" "greatestNonce" "I") ∈ TB := List.mem_filter.mpr ⟨List.mem_of_getElem? (i := 131) (by decide +kernel), by decide +kernel⟩
theorem k_159 : (Jvm.Cond.fieldLink "GroupLog" (29 : Nat) "GroupLog" "replicaCount" "I") ∈ TB := List.mem_filter.mpr ⟨List.mem_of_getElem? (i := 159) (by decide +kernel), by decide +kernel⟩
theorem k_160 : (Jvm.Cond.fieldLink "GroupLog" (32 : Nat) "GroupLog" "faults" "I") ∈ TB := List.mem_filter.mpr ⟨List.mem_of_getElem? (i := 160) (by decide +kernel), by decide +kernel⟩
theorem k_161 : (Jvm.Cond.fieldLink "GroupLog" (37 : Nat) "GroupLog" "replicas" "[LGroupLog$Replica;") ∈ TB := List.mem_filter.mpr ⟨List.mem_of_getElem? (i := 161) (by decide +kernel), by decide +kernel⟩
theorem k_162 : (Jvm.Cond.fieldLink "GroupLog" (11 : Nat) "GroupLog" "latestMessages" "[LGroupLog$Message;") ∈ TB := List.mem_filter.mpr ⟨List.mem_of_getElem? (i := 162) (by decide +kernel), by decide +kernel⟩
theorem k_163 : (Jvm.Cond.fieldLink "GroupLog" (15 : Nat) "GroupLog" "sentCount" "I") ∈ TB := List.mem_filter.mpr ⟨List.mem_of_getElem? (i := 163) (by decide +kernel), by decide +kernel⟩
theorem k_164 : (Jvm.Cond.fieldLink "GroupLog" (19 : Nat) "GroupLog" "latestNext" "I") ∈ TB := List.mem_filter.mpr ⟨List.mem_of_getElem? (i := 164) (by decide +kernel), by decide +kernel⟩
theorem k_165 : (Jvm.Cond.fieldLink "GroupLog" (22 : Nat) "GroupLog" "clientNumber" "[I") ∈ TB := List.mem_filter.mpr ⟨List.mem_of_getElem? (i := 165) (by decide +kernel), by decide +kernel⟩
theorem k_166 : (Jvm.Cond.fieldLink "GroupLog" (26 : Nat) "GroupLog" "clientAnswer" "[I") ∈ TB := List.mem_filter.mpr ⟨List.mem_of_getElem? (i := 166) (by decide +kernel), by decide +kernel⟩
theorem k_188 : (Jvm.Cond.methodLink "GroupLog" (44 : Nat) ({ cls := "GroupLog", name := "isReplica", desc := "(I)Z" } : Jvm.MethodName)) ∈ TB := List.mem_filter.mpr ⟨List.mem_of_getElem? (i := 188) (by decide +kernel), by decide +kernel⟩
theorem k_190 : (Jvm.Cond.instanceMethod ({ cls := "GroupLog", name := "isReplica", desc := "(I)Z" } : Jvm.MethodName)) ∈ TB := List.mem_filter.mpr ⟨List.mem_of_getElem? (i := 190) (by decide +kernel), by decide +kernel⟩
theorem k_191 : (Jvm.Cond.code ({ cls := "GroupLog", name := "isReplica", desc := "(I)Z" } : Jvm.MethodName) prog_1_method_21_code (2 : Nat) (Option.some Jvm.ClassFile.FieldType.boolean)) ∈ TB := List.mem_filter.mpr ⟨List.mem_of_getElem? (i := 191) (by decide +kernel), by decide +kernel⟩
theorem k_192 : (Jvm.Cond.methodLink "GroupLog" (48 : Nat) ({ cls := "GroupLog", name := "isClient", desc := "(I)Z" } : Jvm.MethodName)) ∈ TB := List.mem_filter.mpr ⟨List.mem_of_getElem? (i := 192) (by decide +kernel), by decide +kernel⟩
theorem k_193 : (Jvm.Cond.static ({ cls := "GroupLog", name := "isClient", desc := "(I)Z" } : Jvm.MethodName)) ∈ TB := List.mem_filter.mpr ⟨List.mem_of_getElem? (i := 193) (by decide +kernel), by decide +kernel⟩
theorem k_194 : (Jvm.Cond.code ({ cls := "GroupLog", name := "isClient", desc := "(I)Z" } : Jvm.MethodName) prog_1_method_22_code (1 : Nat) (Option.some Jvm.ClassFile.FieldType.boolean)) ∈ TB := List.mem_filter.mpr ⟨List.mem_of_getElem? (i := 194) (by decide +kernel), by decide +kernel⟩
theorem k_195 : (Jvm.Cond.methodLink "GroupLog" (51 : Nat) ({ cls := "GroupLog", name := "leads", desc := "(LGroupLog$Replica;)Z" } : Jvm.MethodName)) ∈ TB := List.mem_filter.mpr ⟨List.mem_of_getElem? (i := 195) (by decide +kernel), by decide +kernel⟩
theorem k_197 : (Jvm.Cond.instanceMethod ({ cls := "GroupLog", name := "leads", desc := "(LGroupLog$Replica;)Z" } : Jvm.MethodName)) ∈ TB := List.mem_filter.mpr ⟨List.mem_of_getElem? (i := 197) (by decide +kernel), by decide +kernel⟩
theorem k_198 : (Jvm.Cond.code ({ cls := "GroupLog", name := "leads", desc := "(LGroupLog$Replica;)Z" } : Jvm.MethodName) prog_1_method_25_code (2 : Nat) (Option.some Jvm.ClassFile.FieldType.boolean)) ∈ TB := List.mem_filter.mpr ⟨List.mem_of_getElem? (i := 198) (by decide +kernel), by decide +kernel⟩
theorem k_199 : (Jvm.Cond.methodLink "GroupLog" (161 : Nat) ({ cls := "GroupLog", name := "primaryOf", desc := "(I)I" } : Jvm.MethodName)) ∈ TB := List.mem_filter.mpr ⟨List.mem_of_getElem? (i := 199) (by decide +kernel), by decide +kernel⟩
theorem k_201 : (Jvm.Cond.instanceMethod ({ cls := "GroupLog", name := "primaryOf", desc := "(I)I" } : Jvm.MethodName)) ∈ TB := List.mem_filter.mpr ⟨List.mem_of_getElem? (i := 201) (by decide +kernel), by decide +kernel⟩
theorem k_202 : (Jvm.Cond.code ({ cls := "GroupLog", name := "primaryOf", desc := "(I)I" } : Jvm.MethodName) prog_1_method_24_code (2 : Nat) (Option.some Jvm.ClassFile.FieldType.int)) ∈ TB := List.mem_filter.mpr ⟨List.mem_of_getElem? (i := 202) (by decide +kernel), by decide +kernel⟩
theorem k_203 : (Jvm.Cond.methodLink "GroupLog" (158 : Nat) ({ cls := "java/lang/Math", name := "floorMod", desc := "(II)I" } : Jvm.MethodName)) ∈ TB := List.mem_filter.mpr ⟨List.mem_of_getElem? (i := 203) (by decide +kernel), by decide +kernel⟩
theorem k_204 : (Jvm.Cond.static ({ cls := "java/lang/Math", name := "floorMod", desc := "(II)I" } : Jvm.MethodName)) ∈ TB := List.mem_filter.mpr ⟨List.mem_of_getElem? (i := 204) (by decide +kernel), by decide +kernel⟩
theorem k_205 : (Jvm.Cond.code ({ cls := "java/lang/Math", name := "floorMod", desc := "(II)I" } : Jvm.MethodName) prog_8_method_50_code (3 : Nat) (Option.some Jvm.ClassFile.FieldType.int)) ∈ TB := List.mem_filter.mpr ⟨List.mem_of_getElem? (i := 205) (by decide +kernel), by decide +kernel⟩
theorem k_206 : (Jvm.Cond.methodLink "GroupLog" (59 : Nat) ({ cls := "GroupLog$Log", name := "greatestNumber", desc := "(I)I" } : Jvm.MethodName)) ∈ TB := List.mem_filter.mpr ⟨List.mem_of_getElem? (i := 206) (by decide +kernel), by decide +kernel⟩
theorem k_207 : (Jvm.Cond.instanceMethod ({ cls := "GroupLog$Log", name := "greatestNumber", desc := "(I)I" } : Jvm.MethodName)) ∈ TB := List.mem_filter.mpr ⟨List.mem_of_getElem? (i := 207) (by decide +kernel), by decide +kernel⟩
theorem k_208 : (Jvm.Cond.selects "GroupLog$Log" ({ cls := "GroupLog$Log", name := "greatestNumber", desc := "(I)I" } : Jvm.MethodName) ({ cls := "GroupLog$Log", name := "greatestNumber", desc := "(I)I" } : Jvm.MethodName)) ∈ TB := List.mem_filter.mpr ⟨List.mem_of_getElem? (i := 208) (by decide +kernel), by decide +kernel⟩
theorem k_209 : (Jvm.Cond.code ({ cls := "GroupLog$Log", name := "greatestNumber", desc := "(I)I" } : Jvm.MethodName) prog_2_method_4_code (4 : Nat) (Option.some Jvm.ClassFile.FieldType.int)) ∈ TB := List.mem_filter.mpr ⟨List.mem_of_getElem? (i := 209) (by decide +kernel), by decide +kernel⟩
theorem k_210 : (Jvm.Cond.methodLink "GroupLog$Log" (29 : Nat) ({ cls := "java/lang/Math", name := "max", desc := "(II)I" } : Jvm.MethodName)) ∈ TB := List.mem_filter.mpr ⟨List.mem_of_getElem? (i := 210) (by decide +kernel), by decide +kernel⟩
theorem k_211 : (Jvm.Cond.static ({ cls := "java/lang/Math", name := "max", desc := "(II)I" } : Jvm.MethodName)) ∈ TB := List.mem_filter.mpr ⟨List.mem_of_getElem? (i := 211) (by decide +kernel), by decide +kernel⟩
theorem k_212 : (Jvm.Cond.code ({ cls := "java/lang/Math", name := "max", desc := "(II)I" } : Jvm.MethodName) prog_8_method_65_code (2 : Nat) (Option.some Jvm.ClassFile.FieldType.int)) ∈ TB := List.mem_filter.mpr ⟨List.mem_of_getElem? (i := 212) (by decide +kernel), by decide +kernel⟩
theorem k_213 : (Jvm.Cond.methodLink "GroupLog" (65 : Nat) ({ cls := "GroupLog$Log", name := "find", desc := "(II)LGroupLog$Log;" } : Jvm.MethodName)) ∈ TB := List.mem_filter.mpr ⟨List.mem_of_getElem? (i := 213) (by decide +kernel), by decide +kernel⟩
theorem k_214 : (Jvm.Cond.instanceMethod ({ cls := "GroupLog$Log", name := "find", desc := "(II)LGroupLog$Log;" } : Jvm.MethodName)) ∈ TB := List.mem_filter.mpr ⟨List.mem_of_getElem? (i := 214) (by decide +kernel), by decide +kernel⟩
theorem k_215 : (Jvm.Cond.selects "GroupLog$Log" ({ cls := "GroupLog$Log", name := "find", desc := "(II)LGroupLog$Log;" } : Jvm.MethodName) ({ cls := "GroupLog$Log", name := "find", desc := "(II)LGroupLog$Log;" } : Jvm.MethodName)) ∈ TB := List.mem_filter.mpr ⟨List.mem_of_getElem? (i := 215) (by decide +kernel), by decide +kernel⟩
theorem k_216 : (Jvm.Cond.code ({ cls := "GroupLog$Log", name := "find", desc := "(II)LGroupLog$Log;" } : Jvm.MethodName) prog_2_method_5_code (4 : Nat) (Option.some (Jvm.ClassFile.FieldType.object "GroupLog$Log"))) ∈ TB := List.mem_filter.mpr ⟨List.mem_of_getElem? (i := 216) (by decide +kernel), by decide +kernel⟩
theorem k_217 : (Jvm.Cond.methodLink "GroupLog" (69 : Nat) ({ cls := "GroupLog", name := "repeatAnswer", desc := "(LGroupLog$Replica;LGroupLog$Log;)I" } : Jvm.MethodName)) ∈ TB := List.mem_filter.mpr ⟨List.mem_of_getElem? (i := 217) (by decide +kernel), by decide +kernel⟩
theorem k_219 : (Jvm.Cond.instanceMethod ({ cls := "GroupLog", name := "repeatAnswer", desc := "(LGroupLog$Replica;LGroupLog$Log;)I" } : Jvm.MethodName)) ∈ TB := List.mem_filter.mpr ⟨List.mem_of_getElem? (i := 219) (by decide +kernel), by decide +kernel⟩
theorem k_220 : (Jvm.Cond.code ({ cls := "GroupLog", name := "repeatAnswer", desc := "(LGroupLog$Replica;LGroupLog$Log;)I" } : Jvm.MethodName) prog_1_method_28_code (3 : Nat) (Option.some Jvm.ClassFile.FieldType.int)) ∈ TB := List.mem_filter.mpr ⟨List.mem_of_getElem? (i := 220) (by decide +kernel), by decide +kernel⟩
theorem k_221 : (Jvm.Cond.methodLink "GroupLog" (164 : Nat) ({ cls := "GroupLog", name := "answerClient", desc := "(LGroupLog$Log;)V" } : Jvm.MethodName)) ∈ TB := List.mem_filter.mpr ⟨List.mem_of_getElem? (i := 221) (by decide +kernel), by decide +kernel⟩
theorem k_223 : (Jvm.Cond.instanceMethod ({ cls := "GroupLog", name := "answerClient", desc := "(LGroupLog$Log;)V" } : Jvm.MethodName)) ∈ TB := List.mem_filter.mpr ⟨List.mem_of_getElem? (i := 223) (by decide +kernel), by decide +kernel⟩
theorem k_224 : (Jvm.Cond.code ({ cls := "GroupLog", name := "answerClient", desc := "(LGroupLog$Log;)V" } : Jvm.MethodName) prog_1_method_29_code (2 : Nat) (Option.none : Option Jvm.ClassFile.FieldType)) ∈ TB := List.mem_filter.mpr ⟨List.mem_of_getElem? (i := 224) (by decide +kernel), by decide +kernel⟩
theorem k_225 : (Jvm.Cond.classLink "GroupLog" (60 : Nat) "GroupLog$Log") ∈ TB := List.mem_filter.mpr ⟨List.mem_of_getElem? (i := 225) (by decide +kernel), by decide +kernel⟩
theorem k_226 : (Jvm.Cond.methodLink "GroupLog" (76 : Nat) ({ cls := "GroupLog$Log", name := "<init>", desc := "(LGroupLog$Log;III)V" } : Jvm.MethodName)) ∈ TB := List.mem_filter.mpr ⟨List.mem_of_getElem? (i := 226) (by decide +kernel), by decide +kernel⟩
theorem k_227 : (Jvm.Cond.instanceMethod ({ cls := "GroupLog$Log", name := "<init>", desc := "(LGroupLog$Log;III)V" } : Jvm.MethodName)) ∈ TB := List.mem_filter.mpr ⟨List.mem_of_getElem? (i := 227) (by decide +kernel), by decide +kernel⟩
theorem k_228 : (Jvm.Cond.code ({ cls := "GroupLog$Log", name := "<init>", desc := "(LGroupLog$Log;III)V" } : Jvm.MethodName) prog_2_method_2_code (5 : Nat) (Option.none : Option Jvm.ClassFile.FieldType)) ∈ TB := List.mem_filter.mpr ⟨List.mem_of_getElem? (i := 228) (by decide +kernel), by decide +kernel⟩
theorem k_229 : (Jvm.Cond.methodLink "GroupLog" (79 : Nat) ({ cls := "GroupLog", name := "sendToAll", desc := "(LGroupLog$Replica;I)V" } : Jvm.MethodName)) ∈ TB := List.mem_filter.mpr ⟨List.mem_of_getElem? (i := 229) (by decide +kernel), by decide +kernel⟩
theorem k_231 : (Jvm.Cond.instanceMethod ({ cls := "GroupLog", name := "sendToAll", desc := "(LGroupLog$Replica;I)V" } : Jvm.MethodName)) ∈ TB := List.mem_filter.mpr ⟨List.mem_of_getElem? (i := 231) (by decide +kernel), by decide +kernel⟩
theorem k_232 : (Jvm.Cond.code ({ cls := "GroupLog", name := "sendToAll", desc := "(LGroupLog$Replica;I)V" } : Jvm.MethodName) prog_1_method_32_code (4 : Nat) (Option.none : Option Jvm.ClassFile.FieldType)) ∈ TB := List.mem_filter.mpr ⟨List.mem_of_getElem? (i := 232) (by decide +kernel), by decide +kernel⟩
theorem k_233 : (Jvm.Cond.methodLink "GroupLog" (171 : Nat) ({ cls := "GroupLog", name := "send", desc := "(LGroupLog$Replica;II)V" } : Jvm.MethodName)) ∈ TB := List.mem_filter.mpr ⟨List.mem_of_getElem? (i := 233) (by decide +kernel), by decide +kernel⟩
theorem k_235 : (Jvm.Cond.instanceMethod ({ cls := "GroupLog", name := "send", desc := "(LGroupLog$Replica;II)V" } : Jvm.MethodName)) ∈ TB := List.mem_filter.mpr ⟨List.mem_of_getElem? (i := 235) (by decide +kernel), by decide +kernel⟩
theorem k_236 : (Jvm.Cond.code ({ cls := "GroupLog", name := "send", desc := "(LGroupLog$Replica;II)V" } : Jvm.MethodName) prog_1_method_31_code (4 : Nat) (Option.none : Option Jvm.ClassFile.FieldType)) ∈ TB := List.mem_filter.mpr ⟨List.mem_of_getElem? (i := 236) (by decide +kernel), by decide +kernel⟩
theorem k_237 : (Jvm.Cond.instantiable "GroupLog$Message" (8 : Nat)) ∈ TB := List.mem_filter.mpr ⟨List.mem_of_getElem? (i := 237) (by decide +kernel), by decide +kernel⟩
theorem k_238 : (Jvm.Cond.methodLink "GroupLog" (168 : Nat) ({ cls := "GroupLog$Message", name := "<init>", desc := "(LGroupLog$Replica;II)V" } : Jvm.MethodName)) ∈ TB := List.mem_filter.mpr ⟨List.mem_of_getElem? (i := 238) (by decide +kernel), by decide +kernel⟩
theorem k_239 : (Jvm.Cond.instanceMethod ({ cls := "GroupLog$Message", name := "<init>", desc := "(LGroupLog$Replica;II)V" } : Jvm.MethodName)) ∈ TB := List.mem_filter.mpr ⟨List.mem_of_getElem? (i := 239) (by decide +kernel), by decide +kernel⟩
theorem k_240 : (Jvm.Cond.code ({ cls := "GroupLog$Message", name := "<init>", desc := "(LGroupLog$Replica;II)V" } : Jvm.MethodName) prog_3_method_1_code (4 : Nat) (Option.none : Option Jvm.ClassFile.FieldType)) ∈ TB := List.mem_filter.mpr ⟨List.mem_of_getElem? (i := 240) (by decide +kernel), by decide +kernel⟩
theorem k_241 : (Jvm.Cond.methodLink "GroupLog$Message" (1 : Nat) ({ cls := "java/lang/Object", name := "<init>", desc := "()V" } : Jvm.MethodName)) ∈ TB := List.mem_filter.mpr ⟨List.mem_of_getElem? (i := 241) (by decide +kernel), by decide +kernel⟩
theorem k_242 : (Jvm.Cond.fieldLink "GroupLog$Message" (7 : Nat) "GroupLog$Message" "kind" "I") ∈ TB := List.mem_filter.mpr ⟨List.mem_of_getElem? (i := 242) (by decide +kernel), by decide +kernel⟩
theorem k_243 : (Jvm.Cond.fieldLink "GroupLog" (148 : Nat) "GroupLog$Message" "kind" "I") ∈ TB := List.mem_filter.mpr ⟨List.mem_of_getElem? (i := 243) (by decide +kernel), by decide +kernel⟩
theorem k_244 : (Jvm.Cond.fieldLink "GroupLog$Message" (18 : Nat) "GroupLog$Message" "sender" "I") ∈ TB := List.mem_filter.mpr ⟨List.mem_of_getElem? (i := 244) (by decide +kernel), by decide +kernel⟩
theorem k_245 : (Jvm.Cond.fieldLink "GroupLog" (151 : Nat) "GroupLog$Message" "sender" "I") ∈ TB := List.mem_filter.mpr ⟨List.mem_of_getElem? (i := 245) (by decide +kernel), by decide +kernel⟩
theorem k_246 : (Jvm.Cond.fieldLink "GroupLog$Message" (21 : Nat) "GroupLog$Message" "addressee" "I") ∈ TB := List.mem_filter.mpr ⟨List.mem_of_getElem? (i := 246) (by decide +kernel), by decide +kernel⟩
theorem k_247 : (Jvm.Cond.fieldLink "GroupLog" (154 : Nat) "GroupLog$Message" "addressee" "I") ∈ TB := List.mem_filter.mpr ⟨List.mem_of_getElem? (i := 247) (by decide +kernel), by decide +kernel⟩
theorem k_248 : (Jvm.Cond.fieldLink "GroupLog$Message" (27 : Nat) "GroupLog$Message" "view" "I") ∈ TB := List.mem_filter.mpr ⟨List.mem_of_getElem? (i := 248) (by decide +kernel), by decide +kernel⟩
theorem k_249 : (Jvm.Cond.fieldLink "GroupLog$Replica" (60 : Nat) "GroupLog$Message" "view" "I") ∈ TB := List.mem_filter.mpr ⟨List.mem_of_getElem? (i := 249) (by decide +kernel), by decide +kernel⟩
theorem k_250 : (Jvm.Cond.fieldLink "GroupLog" (157 : Nat) "GroupLog$Message" "view" "I") ∈ TB := List.mem_filter.mpr ⟨List.mem_of_getElem? (i := 250) (by decide +kernel), by decide +kernel⟩
theorem k_251 : (Jvm.Cond.fieldLink "GroupLog$Message" (31 : Nat) "GroupLog$Message" "lastView" "I") ∈ TB := List.mem_filter.mpr ⟨List.mem_of_getElem? (i := 251) (by decide +kernel), by decide +kernel⟩
theorem k_252 : (Jvm.Cond.fieldLink "GroupLog$Replica" (87 : Nat) "GroupLog$Message" "lastView" "I") ∈ TB := List.mem_filter.mpr ⟨List.mem_of_getElem? (i := 252) (by decide +kernel), by decide +kernel⟩
theorem k_253 : (Jvm.Cond.fieldLink "GroupLog$Message" (36 : Nat) "GroupLog$Message" "vector" "[I") ∈ TB := List.mem_filter.mpr ⟨List.mem_of_getElem? (i := 253) (by decide +kernel), by decide +kernel⟩
theorem k_254 : (Jvm.Cond.fieldLink "GroupLog$Replica" (82 : Nat) "GroupLog$Message" "vector" "[I") ∈ TB := List.mem_filter.mpr ⟨List.mem_of_getElem? (i := 254) (by decide +kernel), by decide +kernel⟩
theorem k_255 : (Jvm.Cond.fieldLink "GroupLog" (181 : Nat) "GroupLog$Message" "vector" "[I") ∈ TB := List.mem_filter.mpr ⟨List.mem_of_getElem? (i := 255) (by decide +kernel), by decide +kernel⟩
theorem k_256 : (Jvm.Cond.fieldLink "GroupLog$Message" (41 : Nat) "GroupLog$Message" "log" "LGroupLog$Log;") ∈ TB := List.mem_filter.mpr ⟨List.mem_of_getElem? (i := 256) (by decide +kernel), by decide +kernel⟩
theorem k_257 : (Jvm.Cond.fieldLink "GroupLog$Replica" (88 : Nat) "GroupLog$Message" "log" "LGroupLog$Log;") ∈ TB := List.mem_filter.mpr ⟨List.mem_of_getElem? (i := 257) (by decide +kernel), by decide +kernel⟩
theorem k_258 : (Jvm.Cond.fieldLink "GroupLog" (215 : Nat) "GroupLog$Message" "log" "LGroupLog$Log;") ∈ TB := List.mem_filter.mpr ⟨List.mem_of_getElem? (i := 258) (by decide +kernel), by decide +kernel⟩
theorem k_259 : (Jvm.Cond.fieldLink "GroupLog$Message" (45 : Nat) "GroupLog$Message" "commit" "I") ∈ TB := List.mem_filter.mpr ⟨List.mem_of_getElem? (i := 259) (by decide +kernel), by decide +kernel⟩
theorem k_260 : (Jvm.Cond.fieldLink "GroupLog$Replica" (92 : Nat) "GroupLog$Message" "commit" "I") ∈ TB := List.mem_filter.mpr ⟨List.mem_of_getElem? (i := 260) (by decide +kernel), by decide +kernel⟩
theorem k_261 : (Jvm.Cond.fieldLink "GroupLog" (216 : Nat) "GroupLog$Message" "commit" "I") ∈ TB := List.mem_filter.mpr ⟨List.mem_of_getElem? (i := 261) (by decide +kernel), by decide +kernel⟩
theorem k_283 : (Jvm.Cond.methodLink "GroupLog" (83 : Nat) ({ cls := "GroupLog", name := "findMessage", desc := "(I)LGroupLog$Message;" } : Jvm.MethodName)) ∈ TB := List.mem_filter.mpr ⟨List.mem_of_getElem? (i := 283) (by decide +kernel), by decide +kernel⟩
theorem k_285 : (Jvm.Cond.instanceMethod ({ cls := "GroupLog", name := "findMessage", desc := "(I)LGroupLog$Message;" } : Jvm.MethodName)) ∈ TB := List.mem_filter.mpr ⟨List.mem_of_getElem? (i := 285) (by decide +kernel), by decide +kernel⟩
theorem k_286 : (Jvm.Cond.code ({ cls := "GroupLog", name := "findMessage", desc := "(I)LGroupLog$Message;" } : Jvm.MethodName) prog_1_method_30_code (3 : Nat) (Option.some (Jvm.ClassFile.FieldType.object "GroupLog$Message"))) ∈ TB := List.mem_filter.mpr ⟨List.mem_of_getElem? (i := 286) (by decide +kernel), by decide +kernel⟩
theorem k_287 : (Jvm.Cond.methodLink "GroupLog" (87 : Nat) ({ cls := "GroupLog", name := "receive", desc := "(LGroupLog$Message;)I" } : Jvm.MethodName)) ∈ TB := List.mem_filter.mpr ⟨List.mem_of_getElem? (i := 287) (by decide +kernel), by decide +kernel⟩
theorem k_289 : (Jvm.Cond.instanceMethod ({ cls := "GroupLog", name := "receive", desc := "(LGroupLog$Message;)I" } : Jvm.MethodName)) ∈ TB := List.mem_filter.mpr ⟨List.mem_of_getElem? (i := 289) (by decide +kernel), by decide +kernel⟩
theorem k_290 : (Jvm.Cond.code ({ cls := "GroupLog", name := "receive", desc := "(LGroupLog$Message;)I" } : Jvm.MethodName) prog_1_method_33_code (3 : Nat) (Option.some Jvm.ClassFile.FieldType.int)) ∈ TB := List.mem_filter.mpr ⟨List.mem_of_getElem? (i := 290) (by decide +kernel), by decide +kernel⟩
theorem k_291 : (Jvm.Cond.methodLink "GroupLog" (174 : Nat) ({ cls := "GroupLog", name := "hears", desc := "(LGroupLog$Replica;LGroupLog$Message;)Z" } : Jvm.MethodName)) ∈ TB := List.mem_filter.mpr ⟨List.mem_of_getElem? (i := 291) (by decide +kernel), by decide +kernel⟩
theorem k_292 : (Jvm.Cond.static ({ cls := "GroupLog", name := "hears", desc := "(LGroupLog$Replica;LGroupLog$Message;)Z" } : Jvm.MethodName)) ∈ TB := List.mem_filter.mpr ⟨List.mem_of_getElem? (i := 292) (by decide +kernel), by decide +kernel⟩
theorem k_293 : (Jvm.Cond.code ({ cls := "GroupLog", name := "hears", desc := "(LGroupLog$Replica;LGroupLog$Message;)Z" } : Jvm.MethodName) prog_1_method_34_code (2 : Nat) (Option.some Jvm.ClassFile.FieldType.boolean)) ∈ TB := List.mem_filter.mpr ⟨List.mem_of_getElem? (i := 293) (by decide +kernel), by decide +kernel⟩
theorem k_294 : (Jvm.Cond.methodLink "GroupLog" (178 : Nat) ({ cls := "GroupLog", name := "isOutdated", desc := "(LGroupLog$Replica;LGroupLog$Message;)Z" } : Jvm.MethodName)) ∈ TB := List.mem_filter.mpr ⟨List.mem_of_getElem? (i := 294) (by decide +kernel), by decide +kernel⟩
theorem k_295 : (Jvm.Cond.static ({ cls := "GroupLog", name := "isOutdated", desc := "(LGroupLog$Replica;LGroupLog$Message;)Z" } : Jvm.MethodName)) ∈ TB := List.mem_filter.mpr ⟨List.mem_of_getElem? (i := 295) (by decide +kernel), by decide +kernel⟩
theorem k_296 : (Jvm.Cond.code ({ cls := "GroupLog", name := "isOutdated", desc := "(LGroupLog$Replica;LGroupLog$Message;)Z" } : Jvm.MethodName) prog_1_method_35_code (2 : Nat) (Option.some Jvm.ClassFile.FieldType.boolean)) ∈ TB := List.mem_filter.mpr ⟨List.mem_of_getElem? (i := 296) (by decide +kernel), by decide +kernel⟩
theorem k_297 : (Jvm.Cond.methodLink "GroupLog" (182 : Nat) ({ cls := "GroupLog$Replica", name := "raiseVector", desc := "([I)V" } : Jvm.MethodName)) ∈ TB := List.mem_filter.mpr ⟨List.mem_of_getElem? (i := 297) (by decide +kernel), by decide +kernel⟩
theorem k_298 : (Jvm.Cond.instanceMethod ({ cls := "GroupLog$Replica", name := "raiseVector", desc := "([I)V" } : Jvm.MethodName)) ∈ TB := List.mem_filter.mpr ⟨List.mem_of_getElem? (i := 298) (by decide +kernel), by decide +kernel⟩
theorem k_299 : (Jvm.Cond.selects "GroupLog$Replica" ({ cls := "GroupLog$Replica", name := "raiseVector", desc := "([I)V" } : Jvm.MethodName) ({ cls := "GroupLog$Replica", name := "raiseVector", desc := "([I)V" } : Jvm.MethodName)) ∈ TB := List.mem_filter.mpr ⟨List.mem_of_getElem? (i := 299) (by decide +kernel), by decide +kernel⟩
theorem k_300 : (Jvm.Cond.code ({ cls := "GroupLog$Replica", name := "raiseVector", desc := "([I)V" } : Jvm.MethodName) prog_4_method_7_code (4 : Nat) (Option.none : Option Jvm.ClassFile.FieldType)) ∈ TB := List.mem_filter.mpr ⟨List.mem_of_getElem? (i := 300) (by decide +kernel), by decide +kernel⟩
theorem k_301 : (Jvm.Cond.methodLink "GroupLog$Replica" (73 : Nat) ({ cls := "[I", name := "clone", desc := "()Ljava/lang/Object;" } : Jvm.MethodName)) ∈ TB := List.mem_filter.mpr ⟨List.mem_of_getElem? (i := 301) (by decide +kernel), by decide +kernel⟩
theorem k_302 : (Jvm.Cond.sameMethod "[I" "java/lang/Object" "clone" "()Ljava/lang/Object;") ∈ TB := List.mem_filter.mpr ⟨List.mem_of_getElem? (i := 302) (by decide +kernel), by decide +kernel⟩
theorem k_303 : (Jvm.Cond.native ({ cls := "java/lang/Object", name := "clone", desc := "()Ljava/lang/Object;" } : Jvm.MethodName)) ∈ TB := List.mem_filter.mpr ⟨List.mem_of_getElem? (i := 303) (by decide +kernel), by decide +kernel⟩
theorem k_304 : (Jvm.Cond.instanceMethod ({ cls := "java/lang/Object", name := "clone", desc := "()Ljava/lang/Object;" } : Jvm.MethodName)) ∈ TB := List.mem_filter.mpr ⟨List.mem_of_getElem? (i := 304) (by decide +kernel), by decide +kernel⟩
theorem k_305 : (Jvm.Cond.selects "[I" ({ cls := "[I", name := "clone", desc := "()Ljava/lang/Object;" } : Jvm.MethodName) ({ cls := "java/lang/Object", name := "clone", desc := "()Ljava/lang/Object;" } : Jvm.MethodName)) ∈ TB := List.mem_filter.mpr ⟨List.mem_of_getElem? (i := 305) (by decide +kernel), by decide +kernel⟩
theorem k_307 : (Jvm.Cond.classLink "GroupLog$Replica" (74 : Nat) "[I") ∈ TB := List.mem_filter.mpr ⟨List.mem_of_getElem? (i := 307) (by decide +kernel), by decide +kernel⟩
theorem k_308 : (Jvm.Cond.methodLink "GroupLog$Replica" (61 : Nat) ({ cls := "java/lang/Math", name := "max", desc := "(II)I" } : Jvm.MethodName)) ∈ TB := List.mem_filter.mpr ⟨List.mem_of_getElem? (i := 308) (by decide +kernel), by decide +kernel⟩
theorem k_309 : (Jvm.Cond.methodLink "GroupLog" (186 : Nat) ({ cls := "GroupLog$Replica", name := "forgetOutdated", desc := "()V" } : Jvm.MethodName)) ∈ TB := List.mem_filter.mpr ⟨List.mem_of_getElem? (i := 309) (by decide +kernel), by decide +kernel⟩
theorem k_310 : (Jvm.Cond.instanceMethod ({ cls := "GroupLog$Replica", name := "forgetOutdated", desc := "()V" } : Jvm.MethodName)) ∈ TB := List.mem_filter.mpr ⟨List.mem_of_getElem? (i := 310) (by decide +kernel), by decide +kernel⟩
theorem k_311 : (Jvm.Cond.selects "GroupLog$Replica" ({ cls := "GroupLog$Replica", name := "forgetOutdated", desc := "()V" } : Jvm.MethodName) ({ cls := "GroupLog$Replica", name := "forgetOutdated", desc := "()V" } : Jvm.MethodName)) ∈ TB := List.mem_filter.mpr ⟨List.mem_of_getElem? (i := 311) (by decide +kernel), by decide +kernel⟩
theorem k_312 : (Jvm.Cond.code ({ cls := "GroupLog$Replica", name := "forgetOutdated", desc := "()V" } : Jvm.MethodName) prog_4_method_8_code (1 : Nat) (Option.none : Option Jvm.ClassFile.FieldType)) ∈ TB := List.mem_filter.mpr ⟨List.mem_of_getElem? (i := 312) (by decide +kernel), by decide +kernel⟩
theorem k_313 : (Jvm.Cond.methodLink "GroupLog$Replica" (78 : Nat) ({ cls := "GroupLog$Replica", name := "dropOutdated", desc := "([LGroupLog$Message;)V" } : Jvm.MethodName)) ∈ TB := List.mem_filter.mpr ⟨List.mem_of_getElem? (i := 313) (by decide +kernel), by decide +kernel⟩
theorem k_315 : (Jvm.Cond.instanceMethod ({ cls := "GroupLog$Replica", name := "dropOutdated", desc := "([LGroupLog$Message;)V" } : Jvm.MethodName)) ∈ TB := List.mem_filter.mpr ⟨List.mem_of_getElem? (i := 315) (by decide +kernel), by decide +kernel⟩
theorem k_316 : (Jvm.Cond.code ({ cls := "GroupLog$Replica", name := "dropOutdated", desc := "([LGroupLog$Message;)V" } : Jvm.MethodName) prog_4_method_9_code (3 : Nat) (Option.none : Option Jvm.ClassFile.FieldType)) ∈ TB := List.mem_filter.mpr ⟨List.mem_of_getElem? (i := 316) (by decide +kernel), by decide +kernel⟩
theorem k_317 : (Jvm.Cond.methodLink "GroupLog" (189 : Nat) ({ cls := "GroupLog", name := "takePrepare", desc := "(LGroupLog$Replica;LGroupLog$Message;)V" } : Jvm.MethodName)) ∈ TB := List.mem_filter.mpr ⟨List.mem_of_getElem? (i := 317) (by decide +kernel), by decide +kernel⟩
theorem k_319 : (Jvm.Cond.instanceMethod ({ cls := "GroupLog", name := "takePrepare", desc := "(LGroupLog$Replica;LGroupLog$Message;)V" } : Jvm.MethodName)) ∈ TB := List.mem_filter.mpr ⟨List.mem_of_getElem? (i := 319) (by decide +kernel), by decide +kernel⟩
theorem k_320 : (Jvm.Cond.code ({ cls := "GroupLog", name := "takePrepare", desc := "(LGroupLog$Replica;LGroupLog$Message;)V" } : Jvm.MethodName) prog_1_method_37_code (4 : Nat) (Option.none : Option Jvm.ClassFile.FieldType)) ∈ TB := List.mem_filter.mpr ⟨List.mem_of_getElem? (i := 320) (by decide +kernel), by decide +kernel⟩
theorem k_321 : (Jvm.Cond.methodLink "GroupLog" (217 : Nat) ({ cls := "java/lang/Math", name := "min", desc := "(II)I" } : Jvm.MethodName)) ∈ TB := List.mem_filter.mpr ⟨List.mem_of_getElem? (i := 321) (by decide +kernel), by decide +kernel⟩
theorem k_322 : (Jvm.Cond.static ({ cls := "java/lang/Math", name := "min", desc := "(II)I" } : Jvm.MethodName)) ∈ TB := List.mem_filter.mpr ⟨List.mem_of_getElem? (i := 322) (by decide +kernel), by decide +kernel⟩
theorem k_323 : (Jvm.Cond.code ({ cls := "java/lang/Math", name := "min", desc := "(II)I" } : Jvm.MethodName) prog_8_method_69_code (2 : Nat) (Option.some Jvm.ClassFile.FieldType.int)) ∈ TB := List.mem_filter.mpr ⟨List.mem_of_getElem? (i := 323) (by decide +kernel), by decide +kernel⟩
theorem k_324 : (Jvm.Cond.methodLink "GroupLog" (91 : Nat) ({ cls := "java/lang/Math", name := "max", desc := "(II)I" } : Jvm.MethodName)) ∈ TB := List.mem_filter.mpr ⟨List.mem_of_getElem? (i := 324) (by decide +kernel), by decide +kernel⟩
theorem k_325 : (Jvm.Cond.methodLink "GroupLog" (193 : Nat) ({ cls := "GroupLog", name := "takeOk", desc := "(LGroupLog$Replica;LGroupLog$Message;)V" } : Jvm.MethodName)) ∈ TB := List.mem_filter.mpr ⟨List.mem_of_getElem? (i := 325) (by decide +kernel), by decide +kernel⟩
theorem k_327 : (Jvm.Cond.instanceMethod ({ cls := "GroupLog", name := "takeOk", desc := "(LGroupLog$Replica;LGroupLog$Message;)V" } : Jvm.MethodName)) ∈ TB := List.mem_filter.mpr ⟨List.mem_of_getElem? (i := 327) (by decide +kernel), by decide +kernel⟩
theorem k_328 : (Jvm.Cond.code ({ cls := "GroupLog", name := "takeOk", desc := "(LGroupLog$Replica;LGroupLog$Message;)V" } : Jvm.MethodName) prog_1_method_38_code (6 : Nat) (Option.none : Option Jvm.ClassFile.FieldType)) ∈ TB := List.mem_filter.mpr ⟨List.mem_of_getElem? (i := 328) (by decide +kernel), by decide +kernel⟩
theorem k_329 : (Jvm.Cond.methodLink "GroupLog" (223 : Nat) ({ cls := "GroupLog$Replica", name := "ackedBy", desc := "(I)I" } : Jvm.MethodName)) ∈ TB := List.mem_filter.mpr ⟨List.mem_of_getElem? (i := 329) (by decide +kernel), by decide +kernel⟩
theorem k_330 : (Jvm.Cond.instanceMethod ({ cls := "GroupLog$Replica", name := "ackedBy", desc := "(I)I" } : Jvm.MethodName)) ∈ TB := List.mem_filter.mpr ⟨List.mem_of_getElem? (i := 330) (by decide +kernel), by decide +kernel⟩
theorem k_331 : (Jvm.Cond.selects "GroupLog$Replica" ({ cls := "GroupLog$Replica", name := "ackedBy", desc := "(I)I" } : Jvm.MethodName) ({ cls := "GroupLog$Replica", name := "ackedBy", desc := "(I)I" } : Jvm.MethodName)) ∈ TB := List.mem_filter.mpr ⟨List.mem_of_getElem? (i := 331) (by decide +kernel), by decide +kernel⟩
theorem k_332 : (Jvm.Cond.code ({ cls := "GroupLog$Replica", name := "ackedBy", desc := "(I)I" } : Jvm.MethodName) prog_4_method_10_code (4 : Nat) (Option.some Jvm.ClassFile.FieldType.int)) ∈ TB := List.mem_filter.mpr ⟨List.mem_of_getElem? (i := 332) (by decide +kernel), by decide +kernel⟩
theorem k_333 : (Jvm.Cond.methodLink "GroupLog$Replica" (83 : Nat) ({ cls := "GroupLog$Replica", name := "countAcked", desc := "(I)I" } : Jvm.MethodName)) ∈ TB := List.mem_filter.mpr ⟨List.mem_of_getElem? (i := 333) (by decide +kernel), by decide +kernel⟩
theorem k_335 : (Jvm.Cond.instanceMethod ({ cls := "GroupLog$Replica", name := "countAcked", desc := "(I)I" } : Jvm.MethodName)) ∈ TB := List.mem_filter.mpr ⟨List.mem_of_getElem? (i := 335) (by decide +kernel), by decide +kernel⟩
theorem k_336 : (Jvm.Cond.code ({ cls := "GroupLog$Replica", name := "countAcked", desc := "(I)I" } : Jvm.MethodName) prog_4_method_11_code (4 : Nat) (Option.some Jvm.ClassFile.FieldType.int)) ∈ TB := List.mem_filter.mpr ⟨List.mem_of_getElem? (i := 336) (by decide +kernel), by decide +kernel⟩
theorem k_337 : (Jvm.Cond.methodLink "GroupLog" (132 : Nat) ({ cls := "GroupLog$Log", name := "firstEntries", desc := "(I)LGroupLog$Log;" } : Jvm.MethodName)) ∈ TB := List.mem_filter.mpr ⟨List.mem_of_getElem? (i := 337) (by decide +kernel), by decide +kernel⟩
theorem k_338 : (Jvm.Cond.instanceMethod ({ cls := "GroupLog$Log", name := "firstEntries", desc := "(I)LGroupLog$Log;" } : Jvm.MethodName)) ∈ TB := List.mem_filter.mpr ⟨List.mem_of_getElem? (i := 338) (by decide +kernel), by decide +kernel⟩
theorem k_339 : (Jvm.Cond.selects "GroupLog$Log" ({ cls := "GroupLog$Log", name := "firstEntries", desc := "(I)LGroupLog$Log;" } : Jvm.MethodName) ({ cls := "GroupLog$Log", name := "firstEntries", desc := "(I)LGroupLog$Log;" } : Jvm.MethodName)) ∈ TB := List.mem_filter.mpr ⟨List.mem_of_getElem? (i := 339) (by decide +kernel), by decide +kernel⟩
theorem k_340 : (Jvm.Cond.code ({ cls := "GroupLog$Log", name := "firstEntries", desc := "(I)LGroupLog$Log;" } : Jvm.MethodName) prog_2_method_3_code (3 : Nat) (Option.some (Jvm.ClassFile.FieldType.object "GroupLog$Log"))) ∈ TB := List.mem_filter.mpr ⟨List.mem_of_getElem? (i := 340) (by decide +kernel), by decide +kernel⟩
theorem k_341 : (Jvm.Cond.methodLink "GroupLog" (196 : Nat) ({ cls := "GroupLog", name := "replyIfNormal", desc := "(LGroupLog$Replica;LGroupLog$Message;I)V" } : Jvm.MethodName)) ∈ TB := List.mem_filter.mpr ⟨List.mem_of_getElem? (i := 341) (by decide +kernel), by decide +kernel⟩
theorem k_343 : (Jvm.Cond.instanceMethod ({ cls := "GroupLog", name := "replyIfNormal", desc := "(LGroupLog$Replica;LGroupLog$Message;I)V" } : Jvm.MethodName)) ∈ TB := List.mem_filter.mpr ⟨List.mem_of_getElem? (i := 343) (by decide +kernel), by decide +kernel⟩
theorem k_344 : (Jvm.Cond.code ({ cls := "GroupLog", name := "replyIfNormal", desc := "(LGroupLog$Replica;LGroupLog$Message;I)V" } : Jvm.MethodName) prog_1_method_36_code (4 : Nat) (Option.none : Option Jvm.ClassFile.FieldType)) ∈ TB := List.mem_filter.mpr ⟨List.mem_of_getElem? (i := 344) (by decide +kernel), by decide +kernel⟩
theorem k_345 : (Jvm.Cond.methodLink "GroupLog" (200 : Nat) ({ cls := "GroupLog", name := "takeState", desc := "(LGroupLog$Replica;LGroupLog$Message;)V" } : Jvm.MethodName)) ∈ TB := List.mem_filter.mpr ⟨List.mem_of_getElem? (i := 345) (by decide +kernel), by decide +kernel⟩
theorem k_347 : (Jvm.Cond.instanceMethod ({ cls := "GroupLog", name := "takeState", desc := "(LGroupLog$Replica;LGroupLog$Message;)V" } : Jvm.MethodName)) ∈ TB := List.mem_filter.mpr ⟨List.mem_of_getElem? (i := 347) (by decide +kernel), by decide +kernel⟩
theorem k_348 : (Jvm.Cond.code ({ cls := "GroupLog", name := "takeState", desc := "(LGroupLog$Replica;LGroupLog$Message;)V" } : Jvm.MethodName) prog_1_method_39_code (4 : Nat) (Option.none : Option Jvm.ClassFile.FieldType)) ∈ TB := List.mem_filter.mpr ⟨List.mem_of_getElem? (i := 348) (by decide +kernel), by decide +kernel⟩
theorem k_349 : (Jvm.Cond.methodLink "GroupLog" (226 : Nat) ({ cls := "GroupLog$Replica", name := "becomeNormal", desc := "(ILGroupLog$Log;I)V" } : Jvm.MethodName)) ∈ TB := List.mem_filter.mpr ⟨List.mem_of_getElem? (i := 349) (by decide +kernel), by decide +kernel⟩
theorem k_350 : (Jvm.Cond.instanceMethod ({ cls := "GroupLog$Replica", name := "becomeNormal", desc := "(ILGroupLog$Log;I)V" } : Jvm.MethodName)) ∈ TB := List.mem_filter.mpr ⟨List.mem_of_getElem? (i := 350) (by decide +kernel), by decide +kernel⟩
theorem k_351 : (Jvm.Cond.selects "GroupLog$Replica" ({ cls := "GroupLog$Replica", name := "becomeNormal", desc := "(ILGroupLog$Log;I)V" } : Jvm.MethodName) ({ cls := "GroupLog$Replica", name := "becomeNormal", desc := "(ILGroupLog$Log;I)V" } : Jvm.MethodName)) ∈ TB := List.mem_filter.mpr ⟨List.mem_of_getElem? (i := 351) (by decide +kernel), by decide +kernel⟩
theorem k_352 : (Jvm.Cond.code ({ cls := "GroupLog$Replica", name := "becomeNormal", desc := "(ILGroupLog$Log;I)V" } : Jvm.MethodName) prog_4_method_12_code (4 : Nat) (Option.none : Option Jvm.ClassFile.FieldType)) ∈ TB := List.mem_filter.mpr ⟨List.mem_of_getElem? (i := 352) (by decide +kernel), by decide +kernel⟩
theorem k_353 : (Jvm.Cond.methodLink "GroupLog$Replica" (70 : Nat) ({ cls := "GroupLog$Replica", name := "forgetKept", desc := "()V" } : Jvm.MethodName)) ∈ TB := List.mem_filter.mpr ⟨List.mem_of_getElem? (i := 353) (by decide +kernel), by decide +kernel⟩
theorem k_354 : (Jvm.Cond.instanceMethod ({ cls := "GroupLog$Replica", name := "forgetKept", desc := "()V" } : Jvm.MethodName)) ∈ TB := List.mem_filter.mpr ⟨List.mem_of_getElem? (i := 354) (by decide +kernel), by decide +kernel⟩
theorem k_355 : (Jvm.Cond.selects "GroupLog$Replica" ({ cls := "GroupLog$Replica", name := "forgetKept", desc := "()V" } : Jvm.MethodName) ({ cls := "GroupLog$Replica", name := "forgetKept", desc := "()V" } : Jvm.MethodName)) ∈ TB := List.mem_filter.mpr ⟨List.mem_of_getElem? (i := 355) (by decide +kernel), by decide +kernel⟩
theorem k_356 : (Jvm.Cond.code ({ cls := "GroupLog$Replica", name := "forgetKept", desc := "()V" } : Jvm.MethodName) prog_4_method_6_code (2 : Nat) (Option.none : Option Jvm.ClassFile.FieldType)) ∈ TB := List.mem_filter.mpr ⟨List.mem_of_getElem? (i := 356) (by decide +kernel), by decide +kernel⟩
theorem k_357 : (Jvm.Cond.methodLink "GroupLog" (203 : Nat) ({ cls := "GroupLog", name := "joinChange", desc := "(LGroupLog$Replica;LGroupLog$Message;)Z" } : Jvm.MethodName)) ∈ TB := List.mem_filter.mpr ⟨List.mem_of_getElem? (i := 357) (by decide +kernel), by decide +kernel⟩
theorem k_359 : (Jvm.Cond.instanceMethod ({ cls := "GroupLog", name := "joinChange", desc := "(LGroupLog$Replica;LGroupLog$Message;)Z" } : Jvm.MethodName)) ∈ TB := List.mem_filter.mpr ⟨List.mem_of_getElem? (i := 359) (by decide +kernel), by decide +kernel⟩
theorem k_360 : (Jvm.Cond.code ({ cls := "GroupLog", name := "joinChange", desc := "(LGroupLog$Replica;LGroupLog$Message;)Z" } : Jvm.MethodName) prog_1_method_41_code (3 : Nat) (Option.some Jvm.ClassFile.FieldType.boolean)) ∈ TB := List.mem_filter.mpr ⟨List.mem_of_getElem? (i := 360) (by decide +kernel), by decide +kernel⟩
theorem k_361 : (Jvm.Cond.methodLink "GroupLog" (103 : Nat) ({ cls := "GroupLog", name := "startChanging", desc := "(LGroupLog$Replica;I)V" } : Jvm.MethodName)) ∈ TB := List.mem_filter.mpr ⟨List.mem_of_getElem? (i := 361) (by decide +kernel), by decide +kernel⟩
theorem k_363 : (Jvm.Cond.instanceMethod ({ cls := "GroupLog", name := "startChanging", desc := "(LGroupLog$Replica;I)V" } : Jvm.MethodName)) ∈ TB := List.mem_filter.mpr ⟨List.mem_of_getElem? (i := 363) (by decide +kernel), by decide +kernel⟩
theorem k_364 : (Jvm.Cond.code ({ cls := "GroupLog", name := "startChanging", desc := "(LGroupLog$Replica;I)V" } : Jvm.MethodName) prog_1_method_40_code (3 : Nat) (Option.none : Option Jvm.ClassFile.FieldType)) ∈ TB := List.mem_filter.mpr ⟨List.mem_of_getElem? (i := 364) (by decide +kernel), by decide +kernel⟩
theorem k_365 : (Jvm.Cond.methodLink "GroupLog" (230 : Nat) ({ cls := "GroupLog$Replica", name := "forgetKept", desc := "()V" } : Jvm.MethodName)) ∈ TB := List.mem_filter.mpr ⟨List.mem_of_getElem? (i := 365) (by decide +kernel), by decide +kernel⟩
theorem k_366 : (Jvm.Cond.methodLink "GroupLog" (206 : Nat) ({ cls := "GroupLog", name := "keepVote", desc := "(LGroupLog$Replica;LGroupLog$Message;)V" } : Jvm.MethodName)) ∈ TB := List.mem_filter.mpr ⟨List.mem_of_getElem? (i := 366) (by decide +kernel), by decide +kernel⟩
theorem k_368 : (Jvm.Cond.instanceMethod ({ cls := "GroupLog", name := "keepVote", desc := "(LGroupLog$Replica;LGroupLog$Message;)V" } : Jvm.MethodName)) ∈ TB := List.mem_filter.mpr ⟨List.mem_of_getElem? (i := 368) (by decide +kernel), by decide +kernel⟩
theorem k_369 : (Jvm.Cond.code ({ cls := "GroupLog", name := "keepVote", desc := "(LGroupLog$Replica;LGroupLog$Message;)V" } : Jvm.MethodName) prog_1_method_42_code (4 : Nat) (Option.none : Option Jvm.ClassFile.FieldType)) ∈ TB := List.mem_filter.mpr ⟨List.mem_of_getElem? (i := 369) (by decide +kernel), by decide +kernel⟩
theorem k_370 : (Jvm.Cond.methodLink "GroupLog" (240 : Nat) ({ cls := "GroupLog$Replica", name := "count", desc := "([LGroupLog$Message;)I" } : Jvm.MethodName)) ∈ TB := List.mem_filter.mpr ⟨List.mem_of_getElem? (i := 370) (by decide +kernel), by decide +kernel⟩
theorem k_371 : (Jvm.Cond.static ({ cls := "GroupLog$Replica", name := "count", desc := "([LGroupLog$Message;)I" } : Jvm.MethodName)) ∈ TB := List.mem_filter.mpr ⟨List.mem_of_getElem? (i := 371) (by decide +kernel), by decide +kernel⟩
theorem k_372 : (Jvm.Cond.code ({ cls := "GroupLog$Replica", name := "count", desc := "([LGroupLog$Message;)I" } : Jvm.MethodName) prog_4_method_2_code (3 : Nat) (Option.some Jvm.ClassFile.FieldType.int)) ∈ TB := List.mem_filter.mpr ⟨List.mem_of_getElem? (i := 372) (by decide +kernel), by decide +kernel⟩
theorem k_373 : (Jvm.Cond.methodLink "GroupLog" (209 : Nat) ({ cls := "GroupLog", name := "keepPaper", desc := "(LGroupLog$Replica;LGroupLog$Message;)V" } : Jvm.MethodName)) ∈ TB := List.mem_filter.mpr ⟨List.mem_of_getElem? (i := 373) (by decide +kernel), by decide +kernel⟩
theorem k_375 : (Jvm.Cond.instanceMethod ({ cls := "GroupLog", name := "keepPaper", desc := "(LGroupLog$Replica;LGroupLog$Message;)V" } : Jvm.MethodName)) ∈ TB := List.mem_filter.mpr ⟨List.mem_of_getElem? (i := 375) (by decide +kernel), by decide +kernel⟩
theorem k_376 : (Jvm.Cond.code ({ cls := "GroupLog", name := "keepPaper", desc := "(LGroupLog$Replica;LGroupLog$Message;)V" } : Jvm.MethodName) prog_1_method_43_code (3 : Nat) (Option.none : Option Jvm.ClassFile.FieldType)) ∈ TB := List.mem_filter.mpr ⟨List.mem_of_getElem? (i := 376) (by decide +kernel), by decide +kernel⟩
theorem k_377 : (Jvm.Cond.methodLink "GroupLog" (247 : Nat) ({ cls := "GroupLog$Replica", name := "becomePrimary", desc := "()V" } : Jvm.MethodName)) ∈ TB := List.mem_filter.mpr ⟨List.mem_of_getElem? (i := 377) (by decide +kernel), by decide +kernel⟩
theorem k_378 : (Jvm.Cond.instanceMethod ({ cls := "GroupLog$Replica", name := "becomePrimary", desc := "()V" } : Jvm.MethodName)) ∈ TB := List.mem_filter.mpr ⟨List.mem_of_getElem? (i := 378) (by decide +kernel), by decide +kernel⟩
theorem k_379 : (Jvm.Cond.selects "GroupLog$Replica" ({ cls := "GroupLog$Replica", name := "becomePrimary", desc := "()V" } : Jvm.MethodName) ({ cls := "GroupLog$Replica", name := "becomePrimary", desc := "()V" } : Jvm.MethodName)) ∈ TB := List.mem_filter.mpr ⟨List.mem_of_getElem? (i := 379) (by decide +kernel), by decide +kernel⟩
theorem k_380 : (Jvm.Cond.code ({ cls := "GroupLog$Replica", name := "becomePrimary", desc := "()V" } : Jvm.MethodName) prog_4_method_13_code (7 : Nat) (Option.none : Option Jvm.ClassFile.FieldType)) ∈ TB := List.mem_filter.mpr ⟨List.mem_of_getElem? (i := 380) (by decide +kernel), by decide +kernel⟩
theorem k_381 : (Jvm.Cond.methodLink "GroupLog$Replica" (67 : Nat) ({ cls := "GroupLog$Replica", name := "forgetAcked", desc := "()V" } : Jvm.MethodName)) ∈ TB := List.mem_filter.mpr ⟨List.mem_of_getElem? (i := 381) (by decide +kernel), by decide +kernel⟩
theorem k_382 : (Jvm.Cond.instanceMethod ({ cls := "GroupLog$Replica", name := "forgetAcked", desc := "()V" } : Jvm.MethodName)) ∈ TB := List.mem_filter.mpr ⟨List.mem_of_getElem? (i := 382) (by decide +kernel), by decide +kernel⟩
theorem k_383 : (Jvm.Cond.selects "GroupLog$Replica" ({ cls := "GroupLog$Replica", name := "forgetAcked", desc := "()V" } : Jvm.MethodName) ({ cls := "GroupLog$Replica", name := "forgetAcked", desc := "()V" } : Jvm.MethodName)) ∈ TB := List.mem_filter.mpr ⟨List.mem_of_getElem? (i := 383) (by decide +kernel), by decide +kernel⟩
theorem k_384 : (Jvm.Cond.code ({ cls := "GroupLog$Replica", name := "forgetAcked", desc := "()V" } : Jvm.MethodName) prog_4_method_5_code (2 : Nat) (Option.none : Option Jvm.ClassFile.FieldType)) ∈ TB := List.mem_filter.mpr ⟨List.mem_of_getElem? (i := 384) (by decide +kernel), by decide +kernel⟩
theorem k_385 : (Jvm.Cond.methodLink "GroupLog$Replica" (93 : Nat) ({ cls := "GroupLog$Replica", name := "becomeNormal", desc := "(ILGroupLog$Log;I)V" } : Jvm.MethodName)) ∈ TB := List.mem_filter.mpr ⟨List.mem_of_getElem? (i := 385) (by decide +kernel), by decide +kernel⟩
theorem k_386 : (Jvm.Cond.methodLink "GroupLog" (212 : Nat) ({ cls := "GroupLog", name := "keepResponse", desc := "(LGroupLog$Replica;LGroupLog$Message;)V" } : Jvm.MethodName)) ∈ TB := List.mem_filter.mpr ⟨List.mem_of_getElem? (i := 386) (by decide +kernel), by decide +kernel⟩
theorem k_388 : (Jvm.Cond.instanceMethod ({ cls := "GroupLog", name := "keepResponse", desc := "(LGroupLog$Replica;LGroupLog$Message;)V" } : Jvm.MethodName)) ∈ TB := List.mem_filter.mpr ⟨List.mem_of_getElem? (i := 388) (by decide +kernel), by decide +kernel⟩
theorem k_389 : (Jvm.Cond.code ({ cls := "GroupLog", name := "keepResponse", desc := "(LGroupLog$Replica;LGroupLog$Message;)V" } : Jvm.MethodName) prog_1_method_44_code (5 : Nat) (Option.none : Option Jvm.ClassFile.FieldType)) ∈ TB := List.mem_filter.mpr ⟨List.mem_of_getElem? (i := 389) (by decide +kernel), by decide +kernel⟩
theorem k_390 : (Jvm.Cond.methodLink "GroupLog" (253 : Nat) ({ cls := "GroupLog$Replica", name := "greatestView", desc := "([LGroupLog$Message;)I" } : Jvm.MethodName)) ∈ TB := List.mem_filter.mpr ⟨List.mem_of_getElem? (i := 390) (by decide +kernel), by decide +kernel⟩
theorem k_391 : (Jvm.Cond.static ({ cls := "GroupLog$Replica", name := "greatestView", desc := "([LGroupLog$Message;)I" } : Jvm.MethodName)) ∈ TB := List.mem_filter.mpr ⟨List.mem_of_getElem? (i := 391) (by decide +kernel), by decide +kernel⟩
theorem k_392 : (Jvm.Cond.code ({ cls := "GroupLog$Replica", name := "greatestView", desc := "([LGroupLog$Message;)I" } : Jvm.MethodName) prog_4_method_3_code (3 : Nat) (Option.some Jvm.ClassFile.FieldType.int)) ∈ TB := List.mem_filter.mpr ⟨List.mem_of_getElem? (i := 392) (by decide +kernel), by decide +kernel⟩
theorem k_409 : (Jvm.Cond.methodLink "GroupLog" (106 : Nat) ({ cls := "GroupLog", name := "othersLost", desc := "(LGroupLog$Replica;)I" } : Jvm.MethodName)) ∈ TB := List.mem_filter.mpr ⟨List.mem_of_getElem? (i := 409) (by decide +kernel), by decide +kernel⟩
theorem k_411 : (Jvm.Cond.instanceMethod ({ cls := "GroupLog", name := "othersLost", desc := "(LGroupLog$Replica;)I" } : Jvm.MethodName)) ∈ TB := List.mem_filter.mpr ⟨List.mem_of_getElem? (i := 411) (by decide +kernel), by decide +kernel⟩
theorem k_412 : (Jvm.Cond.code ({ cls := "GroupLog", name := "othersLost", desc := "(LGroupLog$Replica;)I" } : Jvm.MethodName) prog_1_method_27_code (4 : Nat) (Option.some Jvm.ClassFile.FieldType.int)) ∈ TB := List.mem_filter.mpr ⟨List.mem_of_getElem? (i := 412) (by decide +kernel), by decide +kernel⟩
theorem k_413 : (Jvm.Cond.methodLink "GroupLog" (113 : Nat) ({ cls := "GroupLog", name := "isLost", desc := "(LGroupLog$Replica;)Z" } : Jvm.MethodName)) ∈ TB := List.mem_filter.mpr ⟨List.mem_of_getElem? (i := 413) (by decide +kernel), by decide +kernel⟩
theorem k_414 : (Jvm.Cond.static ({ cls := "GroupLog", name := "isLost", desc := "(LGroupLog$Replica;)Z" } : Jvm.MethodName)) ∈ TB := List.mem_filter.mpr ⟨List.mem_of_getElem? (i := 414) (by decide +kernel), by decide +kernel⟩
theorem k_415 : (Jvm.Cond.code ({ cls := "GroupLog", name := "isLost", desc := "(LGroupLog$Replica;)Z" } : Jvm.MethodName) prog_1_method_26_code (1 : Nat) (Option.some Jvm.ClassFile.FieldType.boolean)) ∈ TB := List.mem_filter.mpr ⟨List.mem_of_getElem? (i := 415) (by decide +kernel), by decide +kernel⟩
theorem k_416 : (Jvm.Cond.methodLink "GroupLog" (110 : Nat) ({ cls := "GroupLog$Replica", name := "forgetEverything", desc := "()V" } : Jvm.MethodName)) ∈ TB := List.mem_filter.mpr ⟨List.mem_of_getElem? (i := 416) (by decide +kernel), by decide +kernel⟩
theorem k_417 : (Jvm.Cond.instanceMethod ({ cls := "GroupLog$Replica", name := "forgetEverything", desc := "()V" } : Jvm.MethodName)) ∈ TB := List.mem_filter.mpr ⟨List.mem_of_getElem? (i := 417) (by decide +kernel), by decide +kernel⟩
theorem k_418 : (Jvm.Cond.selects "GroupLog$Replica" ({ cls := "GroupLog$Replica", name := "forgetEverything", desc := "()V" } : Jvm.MethodName) ({ cls := "GroupLog$Replica", name := "forgetEverything", desc := "()V" } : Jvm.MethodName)) ∈ TB := List.mem_filter.mpr ⟨List.mem_of_getElem? (i := 418) (by decide +kernel), by decide +kernel⟩
theorem k_419 : (Jvm.Cond.code ({ cls := "GroupLog$Replica", name := "forgetEverything", desc := "()V" } : Jvm.MethodName) prog_4_method_4_code (1 : Nat) (Option.none : Option Jvm.ClassFile.FieldType)) ∈ TB := List.mem_filter.mpr ⟨List.mem_of_getElem? (i := 419) (by decide +kernel), by decide +kernel⟩
theorem k_444 : (Jvm.Cond.methodLink "GroupLog" (128 : Nat) ({ cls := "GroupLog", name := "hasEntry", desc := "(II)Z" } : Jvm.MethodName)) ∈ TB := List.mem_filter.mpr ⟨List.mem_of_getElem? (i := 444) (by decide +kernel), by decide +kernel⟩
theorem k_446 : (Jvm.Cond.instanceMethod ({ cls := "GroupLog", name := "hasEntry", desc := "(II)Z" } : Jvm.MethodName)) ∈ TB := List.mem_filter.mpr ⟨List.mem_of_getElem? (i := 446) (by decide +kernel), by decide +kernel⟩
theorem k_447 : (Jvm.Cond.code ({ cls := "GroupLog", name := "hasEntry", desc := "(II)Z" } : Jvm.MethodName) prog_1_method_23_code (3 : Nat) (Option.some Jvm.ClassFile.FieldType.boolean)) ∈ TB := List.mem_filter.mpr ⟨List.mem_of_getElem? (i := 447) (by decide +kernel), by decide +kernel⟩
theorem k_484 : (Jvm.Cond.methodLink "GroupLogModel" (1 : Nat) ({ cls := "java/lang/Object", name := "<init>", desc := "()V" } : Jvm.MethodName)) ∈ TB := List.mem_filter.mpr ⟨List.mem_of_getElem? (i := 484) (by decide +kernel), by decide +kernel⟩
theorem k_485 : (Jvm.Cond.fieldLink "GroupLogModel" (99 : Nat) "GroupLogModel" "n" "I") ∈ TB := List.mem_filter.mpr ⟨List.mem_of_getElem? (i := 485) (by decide +kernel), by decide +kernel⟩
theorem k_486 : (Jvm.Cond.fieldLink "GroupLogModel" (102 : Nat) "GroupLogModel" "f" "I") ∈ TB := List.mem_filter.mpr ⟨List.mem_of_getElem? (i := 486) (by decide +kernel), by decide +kernel⟩
theorem k_487 : (Jvm.Cond.fieldLink "GroupLogModel" (7 : Nat) "GroupLogModel" "size" "[I") ∈ TB := List.mem_filter.mpr ⟨List.mem_of_getElem? (i := 487) (by decide +kernel), by decide +kernel⟩
theorem k_488 : (Jvm.Cond.fieldLink "GroupLogModel" (13 : Nat) "GroupLogModel" "client" "[I") ∈ TB := List.mem_filter.mpr ⟨List.mem_of_getElem? (i := 488) (by decide +kernel), by decide +kernel⟩
theorem k_489 : (Jvm.Cond.fieldLink "GroupLogModel" (16 : Nat) "GroupLogModel" "number" "[I") ∈ TB := List.mem_filter.mpr ⟨List.mem_of_getElem? (i := 489) (by decide +kernel), by decide +kernel⟩
theorem k_490 : (Jvm.Cond.fieldLink "GroupLogModel" (19 : Nat) "GroupLogModel" "value" "[I") ∈ TB := List.mem_filter.mpr ⟨List.mem_of_getElem? (i := 490) (by decide +kernel), by decide +kernel⟩
theorem k_491 : (Jvm.Cond.fieldLink "GroupLogModel" (22 : Nat) "GroupLogModel" "status" "[I") ∈ TB := List.mem_filter.mpr ⟨List.mem_of_getElem? (i := 491) (by decide +kernel), by decide +kernel⟩
theorem k_492 : (Jvm.Cond.fieldLink "GroupLogModel" (25 : Nat) "GroupLogModel" "view" "[I") ∈ TB := List.mem_filter.mpr ⟨List.mem_of_getElem? (i := 492) (by decide +kernel), by decide +kernel⟩
theorem k_493 : (Jvm.Cond.fieldLink "GroupLogModel" (28 : Nat) "GroupLogModel" "last" "[I") ∈ TB := List.mem_filter.mpr ⟨List.mem_of_getElem? (i := 493) (by decide +kernel), by decide +kernel⟩
theorem k_494 : (Jvm.Cond.fieldLink "GroupLogModel" (31 : Nat) "GroupLogModel" "commit" "[I") ∈ TB := List.mem_filter.mpr ⟨List.mem_of_getElem? (i := 494) (by decide +kernel), by decide +kernel⟩
theorem k_495 : (Jvm.Cond.fieldLink "GroupLogModel" (34 : Nat) "GroupLogModel" "vector" "[I") ∈ TB := List.mem_filter.mpr ⟨List.mem_of_getElem? (i := 495) (by decide +kernel), by decide +kernel⟩
theorem k_496 : (Jvm.Cond.fieldLink "GroupLogModel" (37 : Nat) "GroupLogModel" "acked" "[I") ∈ TB := List.mem_filter.mpr ⟨List.mem_of_getElem? (i := 496) (by decide +kernel), by decide +kernel⟩
theorem k_497 : (Jvm.Cond.fieldLink "GroupLogModel" (40 : Nat) "GroupLogModel" "paperSent" "[Z") ∈ TB := List.mem_filter.mpr ⟨List.mem_of_getElem? (i := 497) (by decide +kernel), by decide +kernel⟩
theorem k_498 : (Jvm.Cond.fieldLink "GroupLogModel" (44 : Nat) "GroupLogModel" "nonces" "[I") ∈ TB := List.mem_filter.mpr ⟨List.mem_of_getElem? (i := 498) (by decide +kernel), by decide +kernel⟩
theorem k_499 : (Jvm.Cond.fieldLink "GroupLogModel" (47 : Nat) "GroupLogModel" "vote" "[Z") ∈ TB := List.mem_filter.mpr ⟨List.mem_of_getElem? (i := 499) (by decide +kernel), by decide +kernel⟩
theorem k_500 : (Jvm.Cond.fieldLink "GroupLogModel" (50 : Nat) "GroupLogModel" "voteMark" "[I") ∈ TB := List.mem_filter.mpr ⟨List.mem_of_getElem? (i := 500) (by decide +kernel), by decide +kernel⟩
theorem k_501 : (Jvm.Cond.fieldLink "GroupLogModel" (53 : Nat) "GroupLogModel" "sheet" "[Z") ∈ TB := List.mem_filter.mpr ⟨List.mem_of_getElem? (i := 501) (by decide +kernel), by decide +kernel⟩
theorem k_502 : (Jvm.Cond.fieldLink "GroupLogModel" (56 : Nat) "GroupLogModel" "sheetMark" "[I") ∈ TB := List.mem_filter.mpr ⟨List.mem_of_getElem? (i := 502) (by decide +kernel), by decide +kernel⟩
theorem k_503 : (Jvm.Cond.fieldLink "GroupLogModel" (59 : Nat) "GroupLogModel" "sheetView" "[I") ∈ TB := List.mem_filter.mpr ⟨List.mem_of_getElem? (i := 503) (by decide +kernel), by decide +kernel⟩
theorem k_504 : (Jvm.Cond.fieldLink "GroupLogModel" (62 : Nat) "GroupLogModel" "sheetLast" "[I") ∈ TB := List.mem_filter.mpr ⟨List.mem_of_getElem? (i := 504) (by decide +kernel), by decide +kernel⟩
theorem k_505 : (Jvm.Cond.fieldLink "GroupLogModel" (65 : Nat) "GroupLogModel" "sheetCommit" "[I") ∈ TB := List.mem_filter.mpr ⟨List.mem_of_getElem? (i := 505) (by decide +kernel), by decide +kernel⟩
theorem k_506 : (Jvm.Cond.fieldLink "GroupLogModel" (68 : Nat) "GroupLogModel" "from" "[I") ∈ TB := List.mem_filter.mpr ⟨List.mem_of_getElem? (i := 506) (by decide +kernel), by decide +kernel⟩
theorem k_507 : (Jvm.Cond.fieldLink "GroupLogModel" (71 : Nat) "GroupLogModel" "to" "[I") ∈ TB := List.mem_filter.mpr ⟨List.mem_of_getElem? (i := 507) (by decide +kernel), by decide +kernel⟩
theorem k_508 : (Jvm.Cond.fieldLink "GroupLogModel" (74 : Nat) "GroupLogModel" "kind" "[I") ∈ TB := List.mem_filter.mpr ⟨List.mem_of_getElem? (i := 508) (by decide +kernel), by decide +kernel⟩
theorem k_509 : (Jvm.Cond.fieldLink "GroupLogModel" (77 : Nat) "GroupLogModel" "at" "[I") ∈ TB := List.mem_filter.mpr ⟨List.mem_of_getElem? (i := 509) (by decide +kernel), by decide +kernel⟩
theorem k_510 : (Jvm.Cond.fieldLink "GroupLogModel" (80 : Nat) "GroupLogModel" "old" "[I") ∈ TB := List.mem_filter.mpr ⟨List.mem_of_getElem? (i := 510) (by decide +kernel), by decide +kernel⟩
theorem k_511 : (Jvm.Cond.fieldLink "GroupLogModel" (83 : Nat) "GroupLogModel" "done" "[I") ∈ TB := List.mem_filter.mpr ⟨List.mem_of_getElem? (i := 511) (by decide +kernel), by decide +kernel⟩
theorem k_512 : (Jvm.Cond.fieldLink "GroupLogModel" (86 : Nat) "GroupLogModel" "stamp" "[I") ∈ TB := List.mem_filter.mpr ⟨List.mem_of_getElem? (i := 512) (by decide +kernel), by decide +kernel⟩
theorem k_513 : (Jvm.Cond.fieldLink "GroupLogModel" (113 : Nat) "GroupLogModel" "sent" "I") ∈ TB := List.mem_filter.mpr ⟨List.mem_of_getElem? (i := 513) (by decide +kernel), by decide +kernel⟩
theorem k_514 : (Jvm.Cond.fieldLink "GroupLogModel" (89 : Nat) "GroupLogModel" "latest" "I") ∈ TB := List.mem_filter.mpr ⟨List.mem_of_getElem? (i := 514) (by decide +kernel), by decide +kernel⟩
theorem k_515 : (Jvm.Cond.fieldLink "GroupLogModel" (93 : Nat) "GroupLogModel" "replyNumber" "[I") ∈ TB := List.mem_filter.mpr ⟨List.mem_of_getElem? (i := 515) (by decide +kernel), by decide +kernel⟩
theorem k_516 : (Jvm.Cond.fieldLink "GroupLogModel" (96 : Nat) "GroupLogModel" "reply" "[I") ∈ TB := List.mem_filter.mpr ⟨List.mem_of_getElem? (i := 516) (by decide +kernel), by decide +kernel⟩
theorem k_582 : (Jvm.Cond.arrayClass Jvm.ClassFile.FieldType.boolean) ∈ TB := List.mem_filter.mpr ⟨List.mem_of_getElem? (i := 582) (by decide +kernel), by decide +kernel⟩
theorem k_587 : (Jvm.Cond.methodLink "GroupLogModel" (127 : Nat) ({ cls := "GroupLogModel", name := "there", desc := "(I)Z" } : Jvm.MethodName)) ∈ TB := List.mem_filter.mpr ⟨List.mem_of_getElem? (i := 587) (by decide +kernel), by decide +kernel⟩
theorem k_589 : (Jvm.Cond.instanceMethod ({ cls := "GroupLogModel", name := "there", desc := "(I)Z" } : Jvm.MethodName)) ∈ TB := List.mem_filter.mpr ⟨List.mem_of_getElem? (i := 589) (by decide +kernel), by decide +kernel⟩
theorem k_590 : (Jvm.Cond.code ({ cls := "GroupLogModel", name := "there", desc := "(I)Z" } : Jvm.MethodName) prog_6_method_13_code (2 : Nat) (Option.some Jvm.ClassFile.FieldType.boolean)) ∈ TB := List.mem_filter.mpr ⟨List.mem_of_getElem? (i := 590) (by decide +kernel), by decide +kernel⟩
theorem k_591 : (Jvm.Cond.methodLink "GroupLogModel" (131 : Nat) ({ cls := "GroupLogModel", name := "receive", desc := "(I)I" } : Jvm.MethodName)) ∈ TB := List.mem_filter.mpr ⟨List.mem_of_getElem? (i := 591) (by decide +kernel), by decide +kernel⟩
theorem k_593 : (Jvm.Cond.instanceMethod ({ cls := "GroupLogModel", name := "receive", desc := "(I)I" } : Jvm.MethodName)) ∈ TB := List.mem_filter.mpr ⟨List.mem_of_getElem? (i := 593) (by decide +kernel), by decide +kernel⟩
theorem k_594 : (Jvm.Cond.code ({ cls := "GroupLogModel", name := "receive", desc := "(I)I" } : Jvm.MethodName) prog_6_method_16_code (6 : Nat) (Option.some Jvm.ClassFile.FieldType.int)) ∈ TB := List.mem_filter.mpr ⟨List.mem_of_getElem? (i := 594) (by decide +kernel), by decide +kernel⟩
theorem k_595 : (Jvm.Cond.methodLink "GroupLogModel" (116 : Nat) ({ cls := "GroupLogModel", name := "copy", desc := "(II)V" } : Jvm.MethodName)) ∈ TB := List.mem_filter.mpr ⟨List.mem_of_getElem? (i := 595) (by decide +kernel), by decide +kernel⟩
theorem k_597 : (Jvm.Cond.instanceMethod ({ cls := "GroupLogModel", name := "copy", desc := "(II)V" } : Jvm.MethodName)) ∈ TB := List.mem_filter.mpr ⟨List.mem_of_getElem? (i := 597) (by decide +kernel), by decide +kernel⟩
theorem k_598 : (Jvm.Cond.code ({ cls := "GroupLogModel", name := "copy", desc := "(II)V" } : Jvm.MethodName) prog_6_method_2_code (4 : Nat) (Option.none : Option Jvm.ClassFile.FieldType)) ∈ TB := List.mem_filter.mpr ⟨List.mem_of_getElem? (i := 598) (by decide +kernel), by decide +kernel⟩
theorem k_599 : (Jvm.Cond.methodLink "GroupLogModel" (135 : Nat) ({ cls := "GroupLogModel", name := "learn", desc := "(I)V" } : Jvm.MethodName)) ∈ TB := List.mem_filter.mpr ⟨List.mem_of_getElem? (i := 599) (by decide +kernel), by decide +kernel⟩
theorem k_601 : (Jvm.Cond.instanceMethod ({ cls := "GroupLogModel", name := "learn", desc := "(I)V" } : Jvm.MethodName)) ∈ TB := List.mem_filter.mpr ⟨List.mem_of_getElem? (i := 601) (by decide +kernel), by decide +kernel⟩
theorem k_602 : (Jvm.Cond.code ({ cls := "GroupLogModel", name := "learn", desc := "(I)V" } : Jvm.MethodName) prog_6_method_17_code (4 : Nat) (Option.none : Option Jvm.ClassFile.FieldType)) ∈ TB := List.mem_filter.mpr ⟨List.mem_of_getElem? (i := 602) (by decide +kernel), by decide +kernel⟩
theorem k_603 : (Jvm.Cond.methodLink "GroupLogModel" (138 : Nat) ({ cls := "GroupLogModel", name := "act", desc := "(II)V" } : Jvm.MethodName)) ∈ TB := List.mem_filter.mpr ⟨List.mem_of_getElem? (i := 603) (by decide +kernel), by decide +kernel⟩
theorem k_605 : (Jvm.Cond.instanceMethod ({ cls := "GroupLogModel", name := "act", desc := "(II)V" } : Jvm.MethodName)) ∈ TB := List.mem_filter.mpr ⟨List.mem_of_getElem? (i := 605) (by decide +kernel), by decide +kernel⟩
theorem k_606 : (Jvm.Cond.code ({ cls := "GroupLogModel", name := "act", desc := "(II)V" } : Jvm.MethodName) prog_6_method_18_code (3 : Nat) (Option.none : Option Jvm.ClassFile.FieldType)) ∈ TB := List.mem_filter.mpr ⟨List.mem_of_getElem? (i := 606) (by decide +kernel), by decide +kernel⟩
theorem k_607 : (Jvm.Cond.methodLink "GroupLogModel" (141 : Nat) ({ cls := "GroupLogModel", name := "prepare", desc := "(II)V" } : Jvm.MethodName)) ∈ TB := List.mem_filter.mpr ⟨List.mem_of_getElem? (i := 607) (by decide +kernel), by decide +kernel⟩
theorem k_609 : (Jvm.Cond.instanceMethod ({ cls := "GroupLogModel", name := "prepare", desc := "(II)V" } : Jvm.MethodName)) ∈ TB := List.mem_filter.mpr ⟨List.mem_of_getElem? (i := 609) (by decide +kernel), by decide +kernel⟩
theorem k_610 : (Jvm.Cond.code ({ cls := "GroupLogModel", name := "prepare", desc := "(II)V" } : Jvm.MethodName) prog_6_method_19_code (5 : Nat) (Option.none : Option Jvm.ClassFile.FieldType)) ∈ TB := List.mem_filter.mpr ⟨List.mem_of_getElem? (i := 610) (by decide +kernel), by decide +kernel⟩
theorem k_611 : (Jvm.Cond.methodLink "GroupLogModel" (120 : Nat) ({ cls := "GroupLogModel", name := "send", desc := "(III)V" } : Jvm.MethodName)) ∈ TB := List.mem_filter.mpr ⟨List.mem_of_getElem? (i := 611) (by decide +kernel), by decide +kernel⟩
theorem k_613 : (Jvm.Cond.instanceMethod ({ cls := "GroupLogModel", name := "send", desc := "(III)V" } : Jvm.MethodName)) ∈ TB := List.mem_filter.mpr ⟨List.mem_of_getElem? (i := 613) (by decide +kernel), by decide +kernel⟩
theorem k_614 : (Jvm.Cond.code ({ cls := "GroupLogModel", name := "send", desc := "(III)V" } : Jvm.MethodName) prog_6_method_10_code (6 : Nat) (Option.none : Option Jvm.ClassFile.FieldType)) ∈ TB := List.mem_filter.mpr ⟨List.mem_of_getElem? (i := 614) (by decide +kernel), by decide +kernel⟩
theorem k_615 : (Jvm.Cond.methodLink "GroupLogModel" (159 : Nat) ({ cls := "GroupLogModel", name := "append", desc := "(IIII)V" } : Jvm.MethodName)) ∈ TB := List.mem_filter.mpr ⟨List.mem_of_getElem? (i := 615) (by decide +kernel), by decide +kernel⟩
theorem k_617 : (Jvm.Cond.instanceMethod ({ cls := "GroupLogModel", name := "append", desc := "(IIII)V" } : Jvm.MethodName)) ∈ TB := List.mem_filter.mpr ⟨List.mem_of_getElem? (i := 617) (by decide +kernel), by decide +kernel⟩
theorem k_618 : (Jvm.Cond.code ({ cls := "GroupLogModel", name := "append", desc := "(IIII)V" } : Jvm.MethodName) prog_6_method_3_code (6 : Nat) (Option.none : Option Jvm.ClassFile.FieldType)) ∈ TB := List.mem_filter.mpr ⟨List.mem_of_getElem? (i := 618) (by decide +kernel), by decide +kernel⟩
theorem k_619 : (Jvm.Cond.methodLink "GroupLogModel" (144 : Nat) ({ cls := "GroupLogModel", name := "ok", desc := "(II)V" } : Jvm.MethodName)) ∈ TB := List.mem_filter.mpr ⟨List.mem_of_getElem? (i := 619) (by decide +kernel), by decide +kernel⟩
theorem k_621 : (Jvm.Cond.instanceMethod ({ cls := "GroupLogModel", name := "ok", desc := "(II)V" } : Jvm.MethodName)) ∈ TB := List.mem_filter.mpr ⟨List.mem_of_getElem? (i := 621) (by decide +kernel), by decide +kernel⟩
theorem k_622 : (Jvm.Cond.code ({ cls := "GroupLogModel", name := "ok", desc := "(II)V" } : Jvm.MethodName) prog_6_method_20_code (8 : Nat) (Option.none : Option Jvm.ClassFile.FieldType)) ∈ TB := List.mem_filter.mpr ⟨List.mem_of_getElem? (i := 622) (by decide +kernel), by decide +kernel⟩
theorem k_623 : (Jvm.Cond.methodLink "GroupLogModel" (163 : Nat) ({ cls := "GroupLogModel", name := "leads", desc := "(I)Z" } : Jvm.MethodName)) ∈ TB := List.mem_filter.mpr ⟨List.mem_of_getElem? (i := 623) (by decide +kernel), by decide +kernel⟩
theorem k_625 : (Jvm.Cond.instanceMethod ({ cls := "GroupLogModel", name := "leads", desc := "(I)Z" } : Jvm.MethodName)) ∈ TB := List.mem_filter.mpr ⟨List.mem_of_getElem? (i := 625) (by decide +kernel), by decide +kernel⟩
theorem k_626 : (Jvm.Cond.code ({ cls := "GroupLogModel", name := "leads", desc := "(I)Z" } : Jvm.MethodName) prog_6_method_7_code (2 : Nat) (Option.some Jvm.ClassFile.FieldType.boolean)) ∈ TB := List.mem_filter.mpr ⟨List.mem_of_getElem? (i := 626) (by decide +kernel), by decide +kernel⟩
theorem k_627 : (Jvm.Cond.methodLink "GroupLogModel" (166 : Nat) ({ cls := "GroupLogModel", name := "answerTo", desc := "(II)V" } : Jvm.MethodName)) ∈ TB := List.mem_filter.mpr ⟨List.mem_of_getElem? (i := 627) (by decide +kernel), by decide +kernel⟩
theorem k_629 : (Jvm.Cond.instanceMethod ({ cls := "GroupLogModel", name := "answerTo", desc := "(II)V" } : Jvm.MethodName)) ∈ TB := List.mem_filter.mpr ⟨List.mem_of_getElem? (i := 629) (by decide +kernel), by decide +kernel⟩
theorem k_630 : (Jvm.Cond.code ({ cls := "GroupLogModel", name := "answerTo", desc := "(II)V" } : Jvm.MethodName) prog_6_method_5_code (4 : Nat) (Option.none : Option Jvm.ClassFile.FieldType)) ∈ TB := List.mem_filter.mpr ⟨List.mem_of_getElem? (i := 630) (by decide +kernel), by decide +kernel⟩
theorem k_631 : (Jvm.Cond.methodLink "GroupLogModel" (105 : Nat) ({ cls := "GroupLogModel", name := "sum", desc := "(II)I" } : Jvm.MethodName)) ∈ TB := List.mem_filter.mpr ⟨List.mem_of_getElem? (i := 631) (by decide +kernel), by decide +kernel⟩
theorem k_633 : (Jvm.Cond.instanceMethod ({ cls := "GroupLogModel", name := "sum", desc := "(II)I" } : Jvm.MethodName)) ∈ TB := List.mem_filter.mpr ⟨List.mem_of_getElem? (i := 633) (by decide +kernel), by decide +kernel⟩
theorem k_634 : (Jvm.Cond.code ({ cls := "GroupLogModel", name := "sum", desc := "(II)I" } : Jvm.MethodName) prog_6_method_4_code (5 : Nat) (Option.some Jvm.ClassFile.FieldType.int)) ∈ TB := List.mem_filter.mpr ⟨List.mem_of_getElem? (i := 634) (by decide +kernel), by decide +kernel⟩
theorem k_635 : (Jvm.Cond.methodLink "GroupLogModel" (147 : Nat) ({ cls := "GroupLogModel", name := "state", desc := "(I)V" } : Jvm.MethodName)) ∈ TB := List.mem_filter.mpr ⟨List.mem_of_getElem? (i := 635) (by decide +kernel), by decide +kernel⟩
theorem k_637 : (Jvm.Cond.instanceMethod ({ cls := "GroupLogModel", name := "state", desc := "(I)V" } : Jvm.MethodName)) ∈ TB := List.mem_filter.mpr ⟨List.mem_of_getElem? (i := 637) (by decide +kernel), by decide +kernel⟩
theorem k_638 : (Jvm.Cond.code ({ cls := "GroupLogModel", name := "state", desc := "(I)V" } : Jvm.MethodName) prog_6_method_21_code (4 : Nat) (Option.none : Option Jvm.ClassFile.FieldType)) ∈ TB := List.mem_filter.mpr ⟨List.mem_of_getElem? (i := 638) (by decide +kernel), by decide +kernel⟩
theorem k_639 : (Jvm.Cond.methodLink "GroupLogModel" (109 : Nat) ({ cls := "GroupLogModel", name := "forget", desc := "(I)V" } : Jvm.MethodName)) ∈ TB := List.mem_filter.mpr ⟨List.mem_of_getElem? (i := 639) (by decide +kernel), by decide +kernel⟩
theorem k_641 : (Jvm.Cond.instanceMethod ({ cls := "GroupLogModel", name := "forget", desc := "(I)V" } : Jvm.MethodName)) ∈ TB := List.mem_filter.mpr ⟨List.mem_of_getElem? (i := 641) (by decide +kernel), by decide +kernel⟩
theorem k_642 : (Jvm.Cond.code ({ cls := "GroupLogModel", name := "forget", desc := "(I)V" } : Jvm.MethodName) prog_6_method_8_code (3 : Nat) (Option.none : Option Jvm.ClassFile.FieldType)) ∈ TB := List.mem_filter.mpr ⟨List.mem_of_getElem? (i := 642) (by decide +kernel), by decide +kernel⟩
theorem k_643 : (Jvm.Cond.methodLink "GroupLogModel" (150 : Nat) ({ cls := "GroupLogModel", name := "change", desc := "(II)V" } : Jvm.MethodName)) ∈ TB := List.mem_filter.mpr ⟨List.mem_of_getElem? (i := 643) (by decide +kernel), by decide +kernel⟩
theorem k_645 : (Jvm.Cond.instanceMethod ({ cls := "GroupLogModel", name := "change", desc := "(II)V" } : Jvm.MethodName)) ∈ TB := List.mem_filter.mpr ⟨List.mem_of_getElem? (i := 645) (by decide +kernel), by decide +kernel⟩
theorem k_646 : (Jvm.Cond.code ({ cls := "GroupLogModel", name := "change", desc := "(II)V" } : Jvm.MethodName) prog_6_method_22_code (6 : Nat) (Option.none : Option Jvm.ClassFile.FieldType)) ∈ TB := List.mem_filter.mpr ⟨List.mem_of_getElem? (i := 646) (by decide +kernel), by decide +kernel⟩
theorem k_647 : (Jvm.Cond.methodLink "GroupLogModel" (169 : Nat) ({ cls := "GroupLogModel", name := "start", desc := "(II)V" } : Jvm.MethodName)) ∈ TB := List.mem_filter.mpr ⟨List.mem_of_getElem? (i := 647) (by decide +kernel), by decide +kernel⟩
theorem k_649 : (Jvm.Cond.instanceMethod ({ cls := "GroupLogModel", name := "start", desc := "(II)V" } : Jvm.MethodName)) ∈ TB := List.mem_filter.mpr ⟨List.mem_of_getElem? (i := 649) (by decide +kernel), by decide +kernel⟩
theorem k_650 : (Jvm.Cond.code ({ cls := "GroupLogModel", name := "start", desc := "(II)V" } : Jvm.MethodName) prog_6_method_12_code (3 : Nat) (Option.none : Option Jvm.ClassFile.FieldType)) ∈ TB := List.mem_filter.mpr ⟨List.mem_of_getElem? (i := 650) (by decide +kernel), by decide +kernel⟩
theorem k_651 : (Jvm.Cond.methodLink "GroupLogModel" (124 : Nat) ({ cls := "GroupLogModel", name := "sendAll", desc := "(II)V" } : Jvm.MethodName)) ∈ TB := List.mem_filter.mpr ⟨List.mem_of_getElem? (i := 651) (by decide +kernel), by decide +kernel⟩
theorem k_653 : (Jvm.Cond.instanceMethod ({ cls := "GroupLogModel", name := "sendAll", desc := "(II)V" } : Jvm.MethodName)) ∈ TB := List.mem_filter.mpr ⟨List.mem_of_getElem? (i := 653) (by decide +kernel), by decide +kernel⟩
theorem k_654 : (Jvm.Cond.code ({ cls := "GroupLogModel", name := "sendAll", desc := "(II)V" } : Jvm.MethodName) prog_6_method_11_code (4 : Nat) (Option.none : Option Jvm.ClassFile.FieldType)) ∈ TB := List.mem_filter.mpr ⟨List.mem_of_getElem? (i := 654) (by decide +kernel), by decide +kernel⟩
theorem k_655 : (Jvm.Cond.methodLink "GroupLogModel" (153 : Nat) ({ cls := "GroupLogModel", name := "paper", desc := "(II)V" } : Jvm.MethodName)) ∈ TB := List.mem_filter.mpr ⟨List.mem_of_getElem? (i := 655) (by decide +kernel), by decide +kernel⟩
theorem k_657 : (Jvm.Cond.instanceMethod ({ cls := "GroupLogModel", name := "paper", desc := "(II)V" } : Jvm.MethodName)) ∈ TB := List.mem_filter.mpr ⟨List.mem_of_getElem? (i := 657) (by decide +kernel), by decide +kernel⟩
theorem k_658 : (Jvm.Cond.code ({ cls := "GroupLogModel", name := "paper", desc := "(II)V" } : Jvm.MethodName) prog_6_method_24_code (8 : Nat) (Option.none : Option Jvm.ClassFile.FieldType)) ∈ TB := List.mem_filter.mpr ⟨List.mem_of_getElem? (i := 658) (by decide +kernel), by decide +kernel⟩
theorem k_659 : (Jvm.Cond.methodLink "GroupLogModel" (172 : Nat) ({ cls := "GroupLogModel", name := "keep", desc := "(II)I" } : Jvm.MethodName)) ∈ TB := List.mem_filter.mpr ⟨List.mem_of_getElem? (i := 659) (by decide +kernel), by decide +kernel⟩
theorem k_661 : (Jvm.Cond.instanceMethod ({ cls := "GroupLogModel", name := "keep", desc := "(II)I" } : Jvm.MethodName)) ∈ TB := List.mem_filter.mpr ⟨List.mem_of_getElem? (i := 661) (by decide +kernel), by decide +kernel⟩
theorem k_662 : (Jvm.Cond.code ({ cls := "GroupLogModel", name := "keep", desc := "(II)I" } : Jvm.MethodName) prog_6_method_23_code (6 : Nat) (Option.some Jvm.ClassFile.FieldType.int)) ∈ TB := List.mem_filter.mpr ⟨List.mem_of_getElem? (i := 662) (by decide +kernel), by decide +kernel⟩
theorem k_663 : (Jvm.Cond.methodLink "GroupLogModel" (156 : Nat) ({ cls := "GroupLogModel", name := "response", desc := "(II)V" } : Jvm.MethodName)) ∈ TB := List.mem_filter.mpr ⟨List.mem_of_getElem? (i := 663) (by decide +kernel), by decide +kernel⟩
theorem k_665 : (Jvm.Cond.instanceMethod ({ cls := "GroupLogModel", name := "response", desc := "(II)V" } : Jvm.MethodName)) ∈ TB := List.mem_filter.mpr ⟨List.mem_of_getElem? (i := 665) (by decide +kernel), by decide +kernel⟩
theorem k_666 : (Jvm.Cond.code ({ cls := "GroupLogModel", name := "response", desc := "(II)V" } : Jvm.MethodName) prog_6_method_25_code (5 : Nat) (Option.none : Option Jvm.ClassFile.FieldType)) ∈ TB := List.mem_filter.mpr ⟨List.mem_of_getElem? (i := 666) (by decide +kernel), by decide +kernel⟩
theorem k_675 : (Jvm.Cond.methodLink "GroupLogModel" (175 : Nat) ({ cls := "GroupLogModel", name := "isReplica", desc := "(I)Z" } : Jvm.MethodName)) ∈ TB := List.mem_filter.mpr ⟨List.mem_of_getElem? (i := 675) (by decide +kernel), by decide +kernel⟩
theorem k_677 : (Jvm.Cond.instanceMethod ({ cls := "GroupLogModel", name := "isReplica", desc := "(I)Z" } : Jvm.MethodName)) ∈ TB := List.mem_filter.mpr ⟨List.mem_of_getElem? (i := 677) (by decide +kernel), by decide +kernel⟩
theorem k_678 : (Jvm.Cond.code ({ cls := "GroupLogModel", name := "isReplica", desc := "(I)Z" } : Jvm.MethodName) prog_6_method_6_code (2 : Nat) (Option.some Jvm.ClassFile.FieldType.boolean)) ∈ TB := List.mem_filter.mpr ⟨List.mem_of_getElem? (i := 678) (by decide +kernel), by decide +kernel⟩
theorem k_691 : (Jvm.Cond.methodLink "GroupLogModel" (178 : Nat) ({ cls := "GroupLogModel", name := "fresh", desc := "(I)V" } : Jvm.MethodName)) ∈ TB := List.mem_filter.mpr ⟨List.mem_of_getElem? (i := 691) (by decide +kernel), by decide +kernel⟩
theorem k_693 : (Jvm.Cond.instanceMethod ({ cls := "GroupLogModel", name := "fresh", desc := "(I)V" } : Jvm.MethodName)) ∈ TB := List.mem_filter.mpr ⟨List.mem_of_getElem? (i := 693) (by decide +kernel), by decide +kernel⟩
theorem k_694 : (Jvm.Cond.code ({ cls := "GroupLogModel", name := "fresh", desc := "(I)V" } : Jvm.MethodName) prog_6_method_9_code (3 : Nat) (Option.none : Option Jvm.ClassFile.FieldType)) ∈ TB := List.mem_filter.mpr ⟨List.mem_of_getElem? (i := 694) (by decide +kernel), by decide +kernel⟩
end
section
abbrev PC : Type := (Nat × List Value) ⊕ ((Nat × Nat × (Nat → Int32)) ⊕ (Nat × Nat × (Nat → Option Nat)))
abbrev HF : Type := Nat → Option PC
def hup (f : HF) (a : Nat) (c : PC) : HF := fun b => if b = a then some c else f b
theorem hup_s (f : HF) (a : Nat) (c : PC) : hup f a c a = some c := by simp [hup]
theorem hup_n {f : HF} {a b : Nat} {c : PC} (h : b ≠ a) : hup f a c b = f b := by simp [hup, h]
def ptr (cid : Nat → ClassId) : PC → va_E
  | .inl o => .inr o
  | .inr (.inl a) => .inl (cid a.1, a.2.1, .inl a.2.2)
  | .inr (.inr a) => .inl (cid a.1, a.2.1, .inr (.inr (.inr (.inr a.2.2))))
def fe (cid : Nat → ClassId) (f : HF) : Nat → va_E := fun a => match f a with
  | some c => ptr cid c
  | none => .inr (0, [])
theorem fe_some {cid : Nat → ClassId} {f : HF} {a : Nat} {c : PC} (h : f a = some c) : fe cid f a = ptr cid c := by simp [fe, h]
theorem fe_hup (cid : Nat → ClassId) (f : HF) (a : Nat) (c : PC) : va_up (fe cid f) a (ptr cid c) = fe cid (hup f a c) := by
  funext b
  by_cases hb : b = a
  · subst hb
    simp [va_up, fe, hup]
  · simp [va_up, fe, hup, hb]
def dom (L : List Nat) (f : HF) : Prop := ∀ a, a ∈ L ↔ ∃ c, f a = some c
theorem dom_hup {L : List Nat} {f : HF} {a : Nat} {c c' : PC} (h : dom L f) (ha : f a = some c) : dom L (hup f a c') := by
  intro b
  by_cases hb : b = a
  · subst hb
    rw [hup_s]
    exact ⟨fun _ => ⟨_, rfl⟩, fun _ => (h b).mpr ⟨c, ha⟩⟩
  · rw [hup_n hb]
    exact h b
theorem dom_new {L : List Nat} {f : HF} {a : Nat} {c' : PC} (h : dom L f) : dom (L ++ [a]) (hup f a c') := by
  intro b
  by_cases hb : b = a
  · subst hb
    rw [hup_s]
    exact ⟨fun _ => ⟨_, rfl⟩, fun _ => List.mem_append_right _ (List.mem_singleton.mpr rfl)⟩
  · rw [hup_n hb, ← h b, List.mem_append, List.mem_singleton]
    exact ⟨fun q => q.resolve_right hb, Or.inl⟩
def Wld (D : va_G) (cl : List vw_C) (cid : Nat → ClassId) (A : Nat → Prop) (f : HF) (H : Heap) : Prop :=
  ∃ L : List Nat, dom L f ∧ va_P D cl (va_pl L (fe cid f)) H ∧ va_D A (va_pl L (fe cid f))
theorem wl_get {cid : Nat → ClassId} {L : List Nat} {f : HF} {a : Nat} {c : PC} (hL : dom L f) (ha : f a = some c) : ∃ k : Nat, (va_pl L (fe cid f))[k]? = some (a, ptr cid c) := by
  obtain ⟨k, hk⟩ := va_pl_get (X := []) (f := fe cid f) ((hL a).mpr ⟨c, ha⟩)
  rw [fe_some ha] at hk
  exact ⟨k, hk⟩
theorem wl_set {cid : Nat → ClassId} {A : Nat → Prop} {L : List Nat} {f : HF} {a k : Nat} {c : PC} (hL : dom L f) (hD : va_D A (va_pl L (fe cid f))) (ha : f a = some c) (hk : (va_pl L (fe cid f))[k]? = some (a, ptr cid c)) (c' : PC) : (va_pl L (fe cid f)).set k (a, ptr cid c') = va_pl L (fe cid (hup f a c')) := by
  have h1 := va_pl_set (X := []) (L := L) (f := fe cid f) (k := k) (e := ptr cid c') hD ((hL a).mpr ⟨c, ha⟩) (by rw [fe_some ha]; exact hk)
  rw [fe_hup] at h1
  exact h1
theorem wl_put {D : va_G} {cl : List vw_C} {cid : Nat → ClassId} {A : Nat → Prop} {L : List Nat} {f : HF} {a k : Nat} {c c' : PC} {H1 : Heap} (hL : dom L f) (hD : va_D A (va_pl L (fe cid f))) (ha : f a = some c) (hk : (va_pl L (fe cid f))[k]? = some (a, ptr cid c))
    (hP1 : va_P D cl ((va_pl L (fe cid f)).set k (a, ptr cid c')) H1) (hD1 : va_D A ((va_pl L (fe cid f)).set k (a, ptr cid c'))) : Wld D cl cid A (hup f a c') H1 := by
  rw [wl_set hL hD ha hk c'] at hP1 hD1
  exact ⟨L, dom_hup hL ha, hP1, hD1⟩
theorem wl_new {D : va_G} {cl : List vw_C} {cid : Nat → ClassId} {A : Nat → Prop} {L : List Nat} {f : HF} {q : Nat} {c : PC} {H1 : Heap} (hL : dom L f) (hP1 : va_P D cl (va_pl L (fe cid f) ++ [(q, ptr cid c)]) H1) (hD1 : va_D A (va_pl L (fe cid f) ++ [(q, ptr cid c)])) : f q = none ∧ Wld D cl cid A (hup f q c) H1 := by
  have hq : q ∉ L := va_pl_fresh2 (X := []) (e := ptr cid c) hD1
  have hn : f q = none := by
    cases h : f q with
    | none => rfl
    | some c0 => exact absurd ((hL q).mpr ⟨c0, h⟩) hq
  have e : va_pl L (fe cid f) ++ [(q, ptr cid c)] = va_pl (L ++ [q]) (fe cid (hup f q c)) := by
    rw [va_pl_push hq, fe_hup]
  rw [e] at hP1 hD1
  exact ⟨hn, L ++ [q], dom_new hL, hP1, hD1⟩
abbrev LV : Type := List (Option Value)
def lget : LV → Nat → Option Value
  | [], _ => none
  | v :: _, 0 => v
  | _ :: vs, i + 1 => lget vs i
def lset : LV → Nat → Value → LV
  | [], _, _ => []
  | _ :: vs, 0, x => some x :: vs
  | v :: vs, i + 1, x => v :: lset vs i x
theorem lget_0 (v : Option Value) (vs : LV) : lget (v :: vs) 0 = v := rfl
theorem lget_s (v : Option Value) (vs : LV) (i : Nat) : lget (v :: vs) (i + 1) = lget vs i := rfl
theorem lset_0 (v : Option Value) (vs : LV) (x : Value) : lset (v :: vs) 0 x = some x :: vs := rfl
theorem lset_s (v : Option Value) (vs : LV) (i : Nat) (x : Value) : lset (v :: vs) (i + 1) x = v :: lset vs i x := rfl
theorem lget_lset : ∀ (lv : LV) (i j : Nat) (x w : Value), lget (lset lv i x) j = some w → (j = i ∧ w = x) ∨ (j ≠ i ∧ lget lv j = some w)
  | [], i, j, x, w, h => by simp [lset, lget] at h
  | v :: vs, 0, 0, x, w, h => by
    rw [lset_0, lget_0] at h
    exact Or.inl ⟨rfl, (Option.some.inj h).symm⟩
  | v :: vs, 0, j + 1, x, w, h => by
    rw [lset_0, lget_s] at h
    exact Or.inr ⟨by omega, by rw [lget_s]; exact h⟩
  | v :: vs, i + 1, 0, x, w, h => by
    rw [lset_s, lget_0] at h
    exact Or.inr ⟨by omega, by rw [lget_0]; exact h⟩
  | v :: vs, i + 1, j + 1, x, w, h => by
    rw [lset_s, lget_s] at h
    rcases lget_lset vs i j x w h with ⟨h1, h2⟩ | ⟨h1, h2⟩
    · exact Or.inl ⟨by omega, h2⟩
    · exact Or.inr ⟨by omega, by rw [lget_s]; exact h2⟩
def lvr (ls : Array Slot) (nL : Nat) (lv : LV) : Prop := ∃ l : List (Nat × Value), lv_has ls nL l ∧ ∀ i v, lget lv i = some v → (i, v) ∈ l ∧ v.category = 1
theorem lvr.at {ls : Array Slot} {nL i : Nat} {lv : LV} {v : Value} (h : lvr ls nL lv) (hv : lget lv i = some v) : ls[i]? = some (.val v) := by
  obtain ⟨l, h1, h2⟩ := h
  exact h1.2.2 (i, v) (h2 i v hv).1
theorem lvr.size {ls : Array Slot} {nL : Nat} {lv : LV} (h : lvr ls nL lv) : ls.size = nL := by
  obtain ⟨l, h1, -⟩ := h
  exact h1.1
theorem lvr_set {ls' : Array Slot} {nL i : Nat} {l : List (Nat × Value)} {lv : LV} {x : Value} (hl : ∀ i v, lget lv i = some v → (i, v) ∈ l ∧ v.category = 1) (hx : x.category = 1) (h : lv_has ls' nL ((i, x) :: l.filter (fun q => !(q.1 == i) && !(q.1 + 1 == i && q.2.category == 2)))) : lvr ls' nL (lset lv i x) := by
  refine ⟨_, h, fun j w hj => ?_⟩
  rcases lget_lset lv i j x w hj with ⟨rfl, rfl⟩ | ⟨h1, h2⟩
  · exact ⟨List.mem_cons_self, hx⟩
  · obtain ⟨h3, h4⟩ := hl j w h2
    refine ⟨List.mem_cons_of_mem _ (List.mem_filter.mpr ⟨h3, ?_⟩), h4⟩
    simp [h1, h4]
abbrev MT : Type := MethodName × ByteArray × Nat × Option FieldType × Room
abbrev CT : Type := Program × Env × State × MethodId × Array Value × List Frame × Method × Code × (Nat → Prop) × (State → Prop)
abbrev KN : Type := LV → List Value → HF → Nat → Nat → Prop
abbrev OP : Type := LV → List Value → HF → Nat → Nat → KN → Prop
abbrev PT : Type := Option Value → HF → Prop
def EX (s : State) : Prop := va_AO "GroupLog$Message" s ∧ va_AO "GroupLog$Replica" s ∧ va_Nw (.castable "[I" "java/lang/Cloneable") s
theorem EX.same {u U : State} (h : u.vm = U.vm) (hE : EX u) : EX U := ⟨va_AO.moved (h ▸ Vm.Alike.refl u.vm) hE.1, va_AO.moved (h ▸ Vm.Alike.refl u.vm) hE.2.1, va_Nw.same rfl h hE.2.2⟩
theorem EX.warm {u U : State} (h : u.WarmedH U.vm) (hE : EX u) : EX U := ⟨va_AO.moved h.alike hE.1, va_AO.moved h.alike hE.2.1, va_Nw.warmC h hE.2.2⟩
section LAYER
variable (l : Launch) (D : va_G) (cid : Nat → ClassId) (M : MT) (X : CT)
def FR (pc : Nat) : KN := fun lv st f bc bs =>
  ∀ (H : Heap) (locs : List Loc) (cells slots : Nat) (ls : Array Slot), lvr ls M.2.2.1 lv → Wld D Cl cid X.2.2.2.2.2.2.2.2.1 f H → va_S X.2.2.2.2.2.2.2.2.1 X.2.2.1.heap H locs → cells + bc ≤ M.2.2.2.2.cells → slots + bs ≤ M.2.2.2.2.slots →
    W X.1 l X.2.1 M.2.2.2.2 X.2.2.1 X.2.2.2.1 X.2.2.2.2.1 X.2.2.2.2.2.1 X.2.2.2.2.2.2.1 X.2.2.2.2.2.2.2.1 H locs cells slots X.2.2.2.2.2.2.2.2.2 (F0 X.2.2.2.1 pc ls st)
def retAt (pc : Nat) (v : Option Value) : Prop :=
  (v = none ∧ M.2.2.2.1 = none ∧ decode M.2.1 pc = .ok (.return_, 1)) ∨
  (∃ x : Int32, v = some (.int x) ∧ M.2.2.2.1 = some .int ∧ decode M.2.1 pc = .ok (.ireturn, 1)) ∨
  (∃ x : Int32, v = some (.int x) ∧ (x = 0 ∨ x = 1) ∧ M.2.2.2.1 = some .boolean ∧ decode M.2.1 pc = .ok (.ireturn, 1)) ∨
  (∃ (r : Option Nat) (n : String), v = some (va_rf r) ∧ M.2.2.2.1 = some (.object n) ∧ decode M.2.1 pc = .ok (.areturn, 1))
def OK (Post : PT) : Prop :=
  X.1.tables.exec = Jvm.exec ∧ X.2.2.2.2.2.2.2.1.code = M.2.1 ∧ X.2.2.2.2.2.2.2.1.maxLocals = M.2.2.1 ∧ X.2.2.1.vm.findClass M.1.cls = some X.2.2.2.1.cls ∧ (∀ w ∈ TB, w.before X.2.2.2.2.1 X.2.2.1 = true) ∧ va_K D Cl (tysL cid) X.2.2.1 ∧
  (∀ q, X.2.2.1.heap.size ≤ q → X.2.2.2.2.2.2.2.2.1 q) ∧ (M.1.name = "<init>" → X.2.2.2.2.2.2.1.name = "<init>") ∧ EX X.2.2.1 ∧
  (∀ (pc : Nat) (ls : Array Slot) (H : Heap) (locs : List Loc) (cells slots : Nat) (v : Option Value) (f : HF), retAt M pc v → Post v f → Wld D Cl cid X.2.2.2.2.2.2.2.2.1 f H → va_S X.2.2.2.2.2.2.2.2.1 X.2.2.1.heap H locs → cells ≤ M.2.2.2.2.cells → slots ≤ M.2.2.2.2.slots →
    W X.1 l X.2.1 M.2.2.2.2 X.2.2.1 X.2.2.2.1 X.2.2.2.2.1 X.2.2.2.2.2.1 X.2.2.2.2.2.2.1 X.2.2.2.2.2.2.2.1 H locs cells slots X.2.2.2.2.2.2.2.2.2 (F0 X.2.2.2.1 pc ls v.toList))
def seg : List OP → KN → KN
  | [], t => t
  | o :: os, t => fun lv st f bc bs => o lv st f bc bs (seg os t)
theorem seg_0 (t : KN) (lv : LV) (st : List Value) (f : HF) (bc bs : Nat) : seg [] t lv st f bc bs = t lv st f bc bs := rfl
theorem seg_s (o : OP) (os : List OP) (t : KN) (lv : LV) (st : List Value) (f : HF) (bc bs : Nat) : seg (o :: os) t lv st f bc bs = o lv st f bc bs (seg os t) := rfl
def SO (pc : Nat) (o : OP) (pc' : Nat) : Prop := ∀ (lv : LV) (st : List Value) (f : HF) (bc bs : Nat) (k : KN), o lv st f bc bs k → (∀ lv' st' f' bc' bs', k lv' st' f' bc' bs' → FR l D cid M X pc' lv' st' f' bc' bs') → FR l D cid M X pc lv st f bc bs
def SS (pc : Nat) (os : List OP) (t : KN) : Prop := ∀ (lv : LV) (st : List Value) (f : HF) (bc bs : Nat), seg os t lv st f bc bs → FR l D cid M X pc lv st f bc bs
variable {l D cid M X}
theorem SS.cons {pc pc' : Nat} {o : OP} {os : List OP} {t : KN} (h1 : SO l D cid M X pc o pc') (h2 : SS l D cid M X pc' os t) : SS l D cid M X pc (o :: os) t :=
  fun lv st f bc bs h => h1 lv st f bc bs _ h (fun lv' st' f' bc' bs' h' => h2 lv' st' f' bc' bs' h')
theorem SS.fall {pc : Nat} : SS l D cid M X pc [] (FR l D cid M X pc) := fun _ _ _ _ _ h => h
def wI (o : Option Value) (k : Int32 → Prop) : Prop := ∃ x, o = some (.int x) ∧ k x
theorem wI_e (x : Int32) (k : Int32 → Prop) : wI (some (.int x)) k = k x := by simp [wI]
def wR (o : Option Value) (k : Value → Prop) : Prop := ∃ r : Option Nat, o = some (va_rf r) ∧ k (va_rf r)
theorem va_rf_inj {r r' : Option Nat} (h : va_rf r = va_rf r') : r = r' := by cases r <;> cases r' <;> simp_all [va_rf]
theorem wR_v (r : Option Nat) (k : Value → Prop) : wR (some (va_rf r)) k = k (va_rf r) := propext ⟨fun ⟨r', h, hk⟩ => by rw [va_rf_inj (Option.some.inj h)]; exact hk, fun h => ⟨r, rfl, h⟩⟩
theorem wR_r (a : Nat) (k : Value → Prop) : wR (some (.ref a)) k = k (.ref a) := wR_v (some a) k
theorem wR_n (k : Value → Prop) : wR (some .null) k = k .null := wR_v none k
def wV (o : Option Value) (k : Value → Prop) : Prop := ∃ v, o = some v ∧ k v
theorem wV_e (v : Value) (k : Value → Prop) : wV (some v) k = k v := by simp [wV]
def wF (o : Option PC) (ci j : Nat) (k : Value → Prop) : Prop := ∃ fs, o = some (.inl (ci, fs)) ∧ wV (fs[j]?) k
theorem wF_e (ci j : Nat) (fs : List Value) (k : Value → Prop) : wF (some (.inl (ci, fs))) ci j k = wV (fs[j]?) k := by simp [wF]
def wP (o : Option PC) (ci j : Nat) (k : List Value → Prop) : Prop := ∃ fs, o = some (.inl (ci, fs)) ∧ (fs[j]?).isSome = true ∧ k fs
theorem wP_e (ci j : Nat) (fs : List Value) (k : List Value → Prop) : wP (some (.inl (ci, fs))) ci j k = ((fs[j]?).isSome = true ∧ k fs) := by simp [wP]
def wA (o : Option PC) (kd : Nat) (k : Nat → (Nat → Int32) → Prop) : Prop := ∃ n g, o = some (.inr (.inl (kd, n, g))) ∧ k n g
theorem wA_e (kd n : Nat) (g : Nat → Int32) (k : Nat → (Nat → Int32) → Prop) : wA (some (.inr (.inl (kd, n, g)))) kd k = k n g := by simp [wA]
def wB (o : Option PC) (kd : Nat) (k : Nat → (Nat → Option Nat) → Prop) : Prop := ∃ n g, o = some (.inr (.inr (kd, n, g))) ∧ k n g
theorem wB_e (kd n : Nat) (g : Nat → Option Nat) (k : Nat → (Nat → Option Nat) → Prop) : wB (some (.inr (.inr (kd, n, g)))) kd k = k n g := by simp [wB]
def wO (o : Option PC) (ci : Nat) (k : Prop) : Prop := ∃ fs, o = some (.inl (ci, fs)) ∧ k
theorem wO_e (ci : Nat) (fs : List Value) (k : Prop) : wO (some (.inl (ci, fs))) ci k = k := by simp [wO]
def o_push (v : Value) : OP := fun lv st f bc bs k => k lv (v :: st) f bc bs
def o_iload (i : Nat) : OP := fun lv st f bc bs k => wI (lget lv i) fun x => k lv (.int x :: st) f bc bs
def o_aload (i : Nat) : OP := fun lv st f bc bs k => wR (lget lv i) fun v => k lv (v :: st) f bc bs
def o_istore (i : Nat) : OP := fun lv st f bc bs k => ∃ x r, st = .int x :: r ∧ k (lset lv i (.int x)) r f bc bs
def o_astore (i : Nat) : OP := fun lv st f bc bs k => ∃ v r, st = va_rf v :: r ∧ k (lset lv i (va_rf v)) r f bc bs
def o_iinc (i : Nat) (n : Int32) : OP := fun lv st f bc bs k => wI (lget lv i) fun x => k (lset lv i (.int (x + n))) st f bc bs
def o_bin (g : Int32 → Int32 → Int32) : OP := fun lv st f bc bs k => ∃ x y r, st = .int y :: .int x :: r ∧ k lv (.int (g x y) :: r) f bc bs
def o_binz (g : Int32 → Int32 → Int32) : OP := fun lv st f bc bs k => ∃ x y r, st = .int y :: .int x :: r ∧ ¬ y = 0 ∧ k lv (.int (g x y) :: r) f bc bs
def o_dup : OP := fun lv st f bc bs k => ∃ v r, st = v :: r ∧ v.category = 1 ∧ k lv (v :: v :: r) f bc bs
def o_dup2 : OP := fun lv st f bc bs k => ∃ v w r, st = v :: w :: r ∧ v.category = 1 ∧ w.category = 1 ∧ k lv (v :: w :: v :: w :: r) f bc bs
def o_getf (ci j : Nat) : OP := fun lv st f bc bs k => ∃ a r, st = .ref a :: r ∧ wF (f a) ci j fun v => k lv (v :: r) f bc bs
def o_put (ok : Value → Prop) (ci j : Nat) : OP := fun lv st f bc bs k => ∃ v a r, st = v :: .ref a :: r ∧ ok v ∧ wP (f a) ci j fun fs => k lv r (hup f a (.inl (ci, fs.set j v))) bc bs
def okI (v : Value) : Prop := ∃ x : Int32, v = .int x
def okZ (v : Value) : Prop := v = .int 0 ∨ v = .int 1
def okR (v : Value) : Prop := ∃ r : Option Nat, v = va_rf r
def o_alen (kd : Nat) : OP := fun lv st f bc bs k => ∃ a r, st = .ref a :: r ∧ wA (f a) kd fun n _ => k lv (.int (nI n) :: r) f bc bs
def o_alenq (kd : Nat) : OP := fun lv st f bc bs k => ∃ a r, st = .ref a :: r ∧ wB (f a) kd fun n _ => k lv (.int (nI n) :: r) f bc bs
def o_ald (kd : Nat) : OP := fun lv st f bc bs k => ∃ i a r, st = .int i :: .ref a :: r ∧ wA (f a) kd fun n g => vp_in i n ∧ k lv (.int (g i.toNatClampNeg) :: r) f bc bs
def o_ast : OP := fun lv st f bc bs k => ∃ x i a r, st = .int x :: .int i :: .ref a :: r ∧ wA (f a) 0 fun n g => vp_in i n ∧ k lv r (hup f a (.inr (.inl (0, n, upd g i.toNatClampNeg x)))) bc bs
def o_zst : OP := fun lv st f bc bs k => ∃ x i a r, st = .int x :: .int i :: .ref a :: r ∧ (x = 0 ∨ x = 1) ∧ wA (f a) 1 fun n g => vp_in i n ∧ k lv r (hup f a (.inr (.inl (1, n, upd g i.toNatClampNeg x)))) bc bs
def o_aldq (kd : Nat) : OP := fun lv st f bc bs k => ∃ i a r, st = .int i :: .ref a :: r ∧ wB (f a) kd fun n g => vp_in i n ∧ k lv (va_rf (g i.toNatClampNeg) :: r) f bc bs
def o_astq (kd ci : Nat) : OP := fun lv st f bc bs k => ∃ w i a r, st = va_rf w :: .int i :: .ref a :: r ∧ (∀ v, w = some v → ∃ vs, f v = some (.inl (ci, vs))) ∧ wB (f a) kd fun n g => vp_in i n ∧ k lv r (hup f a (.inr (.inr (kd, n, va_up g i.toNatClampNeg w)))) bc bs
def o_newI (kd : Nat) : OP := fun lv st f bc bs k => ∃ n r, st = .int n :: r ∧ ¬ n < 0 ∧ n.toNatClampNeg ≤ 100000 ∧ 1 ≤ bc ∧ n.toNatClampNeg ≤ bs ∧ ∀ q, f q = none → k lv (.ref q :: r) (hup f q (.inr (.inl (kd, n.toNatClampNeg, fun _ => 0)))) (bc - 1) (bs - n.toNatClampNeg)
def o_newQ (kd : Nat) : OP := fun lv st f bc bs k => ∃ n r, st = .int n :: r ∧ ¬ n < 0 ∧ n.toNatClampNeg ≤ 100000 ∧ 1 ≤ bc ∧ n.toNatClampNeg ≤ bs ∧ ∀ q, f q = none → k lv (.ref q :: r) (hup f q (.inr (.inr (kd, n.toNatClampNeg, fun _ => none)))) (bc - 1) (bs - n.toNatClampNeg)
def o_new (ci N : Nat) (fs : List Value) : OP := fun lv st f bc bs k => 1 ≤ bc ∧ N ≤ bs ∧ ∀ q, f q = none → k lv (.ref q :: st) (hup f q (.inl (ci, fs))) (bc - 1) (bs - N)
def o_clone : OP := fun lv st f bc bs k => ∃ a r, st = .ref a :: r ∧ r.length ≤ 4 ∧ wA (f a) 0 fun n g => 1 ≤ bc ∧ n ≤ bs ∧ ∀ q, f q = none → k lv (.ref q :: r) (hup f q (.inr (.inl (0, n, g)))) (bc - 1) (bs - n)
def o_castI : OP := fun lv st f bc bs k => ∃ a r, st = .ref a :: r ∧ wA (f a) 0 fun _ _ => k lv st f bc bs
def o_obj : OP := fun lv st f bc bs k => ∃ a r, st = .ref a :: r ∧ r.length ≤ 4 ∧ k lv r f bc bs
def entL (n : Nat) (args : List Value) : LV := args.map some ++ List.replicate (n - args.length) none
def vst (v : Option Value) (st : List Value) : List Value := v.toList ++ st
def CS (l : Launch) (D : va_G) (cid : Nat → ClassId) (M : MT) (args : List Value) (f : HF) (Post : PT) : Prop := ∀ X : CT, OK l D cid M X Post → FR l D cid M X 0 (entL M.2.2.1 args) [] f M.2.2.2.2.cells M.2.2.2.2.slots
def o_callV (l : Launch) (D : va_G) (cid : Nat → ClassId) (M' : MT) (ci n : Nat) : OP := fun lv st f bc bs k => ∃ As b r, st = As.reverse ++ .ref b :: r ∧ As.length = n ∧ (∀ v ∈ As, v.category = 1) ∧ r.length ≤ 4 ∧ M'.2.2.2.2.cells ≤ bc ∧ M'.2.2.2.2.slots ≤ bs ∧
  wO (f b) ci (CS l D cid M' (.ref b :: As) f fun v f' => k lv (vst v r) f' (bc - M'.2.2.2.2.cells) (bs - M'.2.2.2.2.slots))
def o_callI (l : Launch) (D : va_G) (cid : Nat → ClassId) (M' : MT) (n : Nat) : OP := fun lv st f bc bs k => ∃ As b r, st = As.reverse ++ .ref b :: r ∧ As.length = n ∧ (∀ v ∈ As, v.category = 1) ∧ r.length ≤ 4 ∧ M'.2.2.2.2.cells ≤ bc ∧ M'.2.2.2.2.slots ≤ bs ∧
  CS l D cid M' (.ref b :: As) f fun v f' => k lv (vst v r) f' (bc - M'.2.2.2.2.cells) (bs - M'.2.2.2.2.slots)
def o_callS (l : Launch) (D : va_G) (cid : Nat → ClassId) (M' : MT) (n : Nat) : OP := fun lv st f bc bs k => ∃ As r, st = As.reverse ++ r ∧ As.length = n ∧ (∀ v ∈ As, v.category = 1) ∧ r.length ≤ 4 ∧ M'.2.2.2.2.cells ≤ bc ∧ M'.2.2.2.2.slots ≤ bs ∧
  CS l D cid M' As f fun v f' => k lv (vst v r) f' (bc - M'.2.2.2.2.cells) (bs - M'.2.2.2.2.slots)
def t_goto (k : KN) : KN := k
def t_cmp (c : Int32 → Int32 → Prop) (kt kf : KN) : KN := fun lv st f bc bs => ∃ x y r, st = .int y :: .int x :: r ∧ (c x y → kt lv r f bc bs) ∧ (¬ c x y → kf lv r f bc bs)
def t_if (c : Int32 → Prop) (kt kf : KN) : KN := fun lv st f bc bs => ∃ x r, st = .int x :: r ∧ (c x → kt lv r f bc bs) ∧ (¬ c x → kf lv r f bc bs)
def t_null (kn kr : KN) : KN := fun lv st f bc bs => ∃ v r, st = va_rf v :: r ∧ (v = none → kn lv r f bc bs) ∧ (∀ a, v = some a → kr lv r f bc bs)
def t_sw (lo hi : Int) (ks : List KN) (kd : KN) : KN := fun lv st f bc bs => ∃ x r, st = .int x :: r ∧ ((x.toInt < lo ∨ hi < x.toInt) → kd lv r f bc bs) ∧ (∀ (i : Nat) (k : KN), x.toInt = lo + (i : Int) → ks[i]? = some k → k lv r f bc bs)
def t_ret (Post : PT) : KN := fun _ st f _ _ => st = [] ∧ Post none f
def t_iret (Post : PT) : KN := fun _ st f _ _ => ∃ x, st = [.int x] ∧ Post (some (.int x)) f
def t_zret (Post : PT) : KN := fun _ st f _ _ => ∃ x, st = [.int x] ∧ (x = 0 ∨ x = 1) ∧ Post (some (.int x)) f
def t_aret (Post : PT) : KN := fun _ st f _ _ => ∃ r, st = [va_rf r] ∧ Post (some (va_rf r)) f
end LAYER
end
section
section SOUND
variable {l : Launch} {D : va_G} {cid : Nat → ClassId} {M : MT} {X : CT} {Post : PT} {pc : Nat}
theorem so_iconst {n : Int} {v : Int32} (hX : OK l D cid M X Post) (d : decode M.2.1 pc = .ok (.iconst n, 1)) (hv : Int32.ofInt n = v) : SO l D cid M X pc (o_push (.int v)) (pc + 1) := by
  intro lv st f bc bs k h hk H locs cells slots ls hl hw hS hc hs
  exact lv_iconst hX.1 hX.2.1 d hv (hk _ _ _ _ _ h H locs cells slots ls hl hw hS hc hs)
theorem so_bipush {n : Int} {v : Int32} (hX : OK l D cid M X Post) (d : decode M.2.1 pc = .ok (.bipush n, 2)) (hv : (Int8.ofInt n).toInt32 = v) : SO l D cid M X pc (o_push (.int v)) (pc + 2) := by
  intro lv st f bc bs k h hk H locs cells slots ls hl hw hS hc hs
  exact lv_bipush hX.1 hX.2.1 d hv (hk _ _ _ _ _ h H locs cells slots ls hl hw hS hc hs)
theorem so_sipush {n : Int} {v : Int32} (hX : OK l D cid M X Post) (d : decode M.2.1 pc = .ok (.sipush n, 3)) (hv : (Int16.ofInt n).toInt32 = v) : SO l D cid M X pc (o_push (.int v)) (pc + 3) := by
  intro lv st f bc bs k h hk H locs cells slots ls hl hw hS hc hs
  exact lv_sipush hX.1 hX.2.1 d hv (hk _ _ _ _ _ h H locs cells slots ls hl hw hS hc hs)
theorem so_null (hX : OK l D cid M X Post) (d : decode M.2.1 pc = .ok (.aconst_null, 1)) : SO l D cid M X pc (o_push .null) (pc + 1) := by
  intro lv st f bc bs k h hk H locs cells slots ls hl hw hS hc hs
  exact lv_null hX.1 hX.2.1 d (hk _ _ _ _ _ h H locs cells slots ls hl hw hS hc hs)
theorem so_iload_n {j : Fin 4} {i : Nat} (hX : OK l D cid M X Post) (d : decode M.2.1 pc = .ok (.iload_n j, 1)) (hi : (j : Nat) = i) : SO l D cid M X pc (o_iload i) (pc + 1) := by
  intro lv st f bc bs k h hk H locs cells slots ls hl hw hS hc hs
  obtain ⟨x, hx, h⟩ := h
  exact lv_iload_n hX.1 hX.2.1 d hi (hl.at hx) (hk _ _ _ _ _ h H locs cells slots ls hl hw hS hc hs)
theorem so_iload {i : Nat} (hX : OK l D cid M X Post) (d : decode M.2.1 pc = .ok (.iload i, 2)) : SO l D cid M X pc (o_iload i) (pc + 2) := by
  intro lv st f bc bs k h hk H locs cells slots ls hl hw hS hc hs
  obtain ⟨x, hx, h⟩ := h
  exact lv_iload hX.1 hX.2.1 d (hl.at hx) (hk _ _ _ _ _ h H locs cells slots ls hl hw hS hc hs)
theorem so_aload_n {j : Fin 4} {i : Nat} (hX : OK l D cid M X Post) (d : decode M.2.1 pc = .ok (.aload_n j, 1)) (hi : (j : Nat) = i) : SO l D cid M X pc (o_aload i) (pc + 1) := by
  intro lv st f bc bs k h hk H locs cells slots ls hl hw hS hc hs
  obtain ⟨r, hx, h⟩ := h
  cases r with
  | none => exact lv_aload_nN hX.1 hX.2.1 d hi (hl.at hx) (hk _ _ _ _ _ h H locs cells slots ls hl hw hS hc hs)
  | some a => exact lv_aload_n hX.1 hX.2.1 d hi (hl.at hx) (hk _ _ _ _ _ h H locs cells slots ls hl hw hS hc hs)
theorem so_aload {i : Nat} (hX : OK l D cid M X Post) (d : decode M.2.1 pc = .ok (.aload i, 2)) : SO l D cid M X pc (o_aload i) (pc + 2) := by
  intro lv st f bc bs k h hk H locs cells slots ls hl hw hS hc hs
  obtain ⟨r, hx, h⟩ := h
  cases r with
  | none => exact lv_aloadN hX.1 hX.2.1 d (hl.at hx) (hk _ _ _ _ _ h H locs cells slots ls hl hw hS hc hs)
  | some a => exact lv_aload hX.1 hX.2.1 d (hl.at hx) (hk _ _ _ _ _ h H locs cells slots ls hl hw hS hc hs)
theorem so_istore_n {j : Fin 4} {i : Nat} (hX : OK l D cid M X Post) (d : decode M.2.1 pc = .ok (.istore_n j, 1)) (hi : (j : Nat) = i) (hn : i < M.2.2.1) : SO l D cid M X pc (o_istore i) (pc + 1) := by
  intro lv st f bc bs k h hk H locs cells slots ls hl hw hS hc hs
  obtain ⟨x, r, rfl, h⟩ := h
  obtain ⟨l0, h1, h2⟩ := hl
  exact lv_istore_n hX.1 hX.2.1 d hi h1 hn rfl (fun ls' h' => hk _ _ _ _ _ h H locs cells slots ls' (lvr_set h2 rfl h') hw hS hc hs)
theorem so_istore {i : Nat} (hX : OK l D cid M X Post) (d : decode M.2.1 pc = .ok (.istore i, 2)) (hn : i < M.2.2.1) : SO l D cid M X pc (o_istore i) (pc + 2) := by
  intro lv st f bc bs k h hk H locs cells slots ls hl hw hS hc hs
  obtain ⟨x, r, rfl, h⟩ := h
  obtain ⟨l0, h1, h2⟩ := hl
  exact lv_istore hX.1 hX.2.1 d h1 hn rfl (fun ls' h' => hk _ _ _ _ _ h H locs cells slots ls' (lvr_set h2 rfl h') hw hS hc hs)
theorem so_astore_n {j : Fin 4} {i : Nat} (hX : OK l D cid M X Post) (d : decode M.2.1 pc = .ok (.astore_n j, 1)) (hi : (j : Nat) = i) (hn : i < M.2.2.1) : SO l D cid M X pc (o_astore i) (pc + 1) := by
  intro lv st f bc bs k h hk H locs cells slots ls hl hw hS hc hs
  obtain ⟨v, r, rfl, h⟩ := h
  obtain ⟨l0, h1, h2⟩ := hl
  cases v with
  | none => exact lv_astore_nN hX.1 hX.2.1 d hi h1 hn rfl (fun ls' h' => hk _ _ _ _ _ h H locs cells slots ls' (lvr_set h2 rfl h') hw hS hc hs)
  | some a => exact lv_astore_n hX.1 hX.2.1 d hi h1 hn rfl (fun ls' h' => hk _ _ _ _ _ h H locs cells slots ls' (lvr_set h2 rfl h') hw hS hc hs)
theorem so_astore {i : Nat} (hX : OK l D cid M X Post) (d : decode M.2.1 pc = .ok (.astore i, 2)) (hn : i < M.2.2.1) : SO l D cid M X pc (o_astore i) (pc + 2) := by
  intro lv st f bc bs k h hk H locs cells slots ls hl hw hS hc hs
  obtain ⟨v, r, rfl, h⟩ := h
  obtain ⟨l0, h1, h2⟩ := hl
  cases v with
  | none => exact lv_astoreN hX.1 hX.2.1 d h1 hn rfl (fun ls' h' => hk _ _ _ _ _ h H locs cells slots ls' (lvr_set h2 rfl h') hw hS hc hs)
  | some a => exact lv_astore hX.1 hX.2.1 d h1 hn rfl (fun ls' h' => hk _ _ _ _ _ h H locs cells slots ls' (lvr_set h2 rfl h') hw hS hc hs)
theorem so_iinc {i : Nat} {n : Int} {v : Int32} (hX : OK l D cid M X Post) (d : decode M.2.1 pc = .ok (.iinc i n, 3)) (hv : Int32.ofInt n = v) (hn : i < M.2.2.1) : SO l D cid M X pc (o_iinc i v) (pc + 3) := by
  intro lv st f bc bs k h hk H locs cells slots ls hl hw hS hc hs
  obtain ⟨x, hx, h⟩ := h
  obtain ⟨l0, h1, h2⟩ := hl
  subst hv
  obtain ⟨q, hq⟩ := List.getElem?_of_mem (h2 i _ hx).1
  exact lv_iinc hX.1 hX.2.1 d h1 hq rfl hn rfl (fun ls' h' => hk _ _ _ _ _ h H locs cells slots ls' (lvr_set h2 rfl h') hw hS hc hs)
theorem so_iadd (hX : OK l D cid M X Post) (d : decode M.2.1 pc = .ok (.iadd, 1)) : SO l D cid M X pc (o_bin (fun x y => x + y)) (pc + 1) := by
  intro lv st f bc bs k h hk H locs cells slots ls hl hw hS hc hs
  obtain ⟨x, y, r, rfl, h⟩ := h
  exact lv_iadd hX.1 hX.2.1 d (hk _ _ _ _ _ h H locs cells slots ls hl hw hS hc hs)
theorem so_isub (hX : OK l D cid M X Post) (d : decode M.2.1 pc = .ok (.isub, 1)) : SO l D cid M X pc (o_bin (fun x y => x - y)) (pc + 1) := by
  intro lv st f bc bs k h hk H locs cells slots ls hl hw hS hc hs
  obtain ⟨x, y, r, rfl, h⟩ := h
  exact lv_isub hX.1 hX.2.1 d (hk _ _ _ _ _ h H locs cells slots ls hl hw hS hc hs)
theorem so_imul (hX : OK l D cid M X Post) (d : decode M.2.1 pc = .ok (.imul, 1)) : SO l D cid M X pc (o_bin (fun x y => x * y)) (pc + 1) := by
  intro lv st f bc bs k h hk H locs cells slots ls hl hw hS hc hs
  obtain ⟨x, y, r, rfl, h⟩ := h
  exact lv_imul hX.1 hX.2.1 d (hk _ _ _ _ _ h H locs cells slots ls hl hw hS hc hs)
theorem so_iand (hX : OK l D cid M X Post) (d : decode M.2.1 pc = .ok (.iand, 1)) : SO l D cid M X pc (o_bin (fun x y => x &&& y)) (pc + 1) := by
  intro lv st f bc bs k h hk H locs cells slots ls hl hw hS hc hs
  obtain ⟨x, y, r, rfl, h⟩ := h
  exact lv_iand hX.1 hX.2.1 d (hk _ _ _ _ _ h H locs cells slots ls hl hw hS hc hs)
theorem so_ixor (hX : OK l D cid M X Post) (d : decode M.2.1 pc = .ok (.ixor, 1)) : SO l D cid M X pc (o_bin (fun x y => x ^^^ y)) (pc + 1) := by
  intro lv st f bc bs k h hk H locs cells slots ls hl hw hS hc hs
  obtain ⟨x, y, r, rfl, h⟩ := h
  exact lv_ixor hX.1 hX.2.1 d (hk _ _ _ _ _ h H locs cells slots ls hl hw hS hc hs)
theorem so_idiv (hX : OK l D cid M X Post) (d : decode M.2.1 pc = .ok (.idiv, 1)) : SO l D cid M X pc (o_binz (fun x y => x / y)) (pc + 1) := by
  intro lv st f bc bs k h hk H locs cells slots ls hl hw hS hc hs
  obtain ⟨x, y, r, rfl, h0, h⟩ := h
  exact lv_idiv hX.1 hX.2.1 d h0 (hk _ _ _ _ _ h H locs cells slots ls hl hw hS hc hs)
theorem so_irem (hX : OK l D cid M X Post) (d : decode M.2.1 pc = .ok (.irem, 1)) : SO l D cid M X pc (o_binz (fun x y => x - x / y * y)) (pc + 1) := by
  intro lv st f bc bs k h hk H locs cells slots ls hl hw hS hc hs
  obtain ⟨x, y, r, rfl, h0, h⟩ := h
  exact lv_irem hX.1 hX.2.1 d h0 (hk _ _ _ _ _ h H locs cells slots ls hl hw hS hc hs)
theorem so_dup (hX : OK l D cid M X Post) (d : decode M.2.1 pc = .ok (.dup, 1)) : SO l D cid M X pc o_dup (pc + 1) := by
  intro lv st f bc bs k h hk H locs cells slots ls hl hw hS hc hs
  obtain ⟨v, r, rfl, hv, h⟩ := h
  exact lv_dup hX.1 hX.2.1 d hv (hk _ _ _ _ _ h H locs cells slots ls hl hw hS hc hs)
theorem so_dup2 (hX : OK l D cid M X Post) (d : decode M.2.1 pc = .ok (.dup2, 1)) : SO l D cid M X pc o_dup2 (pc + 1) := by
  intro lv st f bc bs k h hk H locs cells slots ls hl hw hS hc hs
  obtain ⟨v, w, r, rfl, hv, hw1, h⟩ := h
  exact lv_dup2_11 hX.1 hX.2.1 d hv hw1 (hk _ _ _ _ _ h H locs cells slots ls hl hw hS hc hs)
theorem is_len {fs : List Value} {j : Nat} (h : (fs[j]?).isSome = true) : j < fs.length := by
  cases hc : fs[j]? with
  | none => rw [hc] at h; cases h
  | some w => exact (List.getElem?_eq_some_iff.mp hc).1
theorem so_getf {C : String} {T : u_T} {N idx ci j : Nat} (hX : OK l D cid M X Post) (d : decode M.2.1 pc = .ok (.getfield idx, 3)) (hin : ∀ w ∈ u_ws C T N, w ∈ TB) (hc : Cl[ci]? = some (C, T, N)) (hj : j < N) (hl : Cond.fieldLink M.1.cls idx (T j).1 (T j).2.1 (T j).2.2.1 ∈ TB) : SO l D cid M X pc (o_getf ci j) (pc + 3) := by
  intro lv st f bc bs k h hk H locs cells slots ls hlv hw hS hce hsl
  obtain ⟨a, r, rfl, fs, hf, v, hv, h⟩ := h
  obtain ⟨L, hL, hP, hD⟩ := hw
  obtain ⟨q0, hq⟩ := wl_get (cid := cid) hL hf
  exact va_get (own := M.1.cls) (D := D) (cl := Cl) hX.1 hX.2.1 hX.2.2.2.2.1 hin hX.2.2.2.1 hX.2.2.2.2.2.1 hP q0 hq hc j hj (hX.2.2.2.2.1 _ hl) (fun _ h9 => h9) hv d (hk _ _ _ _ _ h H locs cells slots ls hlv ⟨L, hL, hP, hD⟩ hS hce hsl)
theorem so_put {ok : Value → Prop} {ty : FieldType} (hok : ∀ v, ok v → narrow ty v = v ∧ fits ty v = true) {C : String} {T : u_T} {N idx ci j : Nat} {ty0 : Nat → FieldType} (hX : OK l D cid M X Post) (d : decode M.2.1 pc = .ok (.putfield idx, 3)) (hin : ∀ w ∈ u_ws C T N, w ∈ TB) (hty : ∀ k, k < N → parseFieldDescriptor (T k).2.2.1 = some (ty0 k)) (hnm : ∀ a, a < N → ∀ b, b < N → a ≠ b → (T a).2.1 ≠ (T b).2.1)
    (hc : Cl[ci]? = some (C, T, N)) (hj : j < N) (hl : Cond.fieldLink M.1.cls idx (T j).1 (T j).2.1 (T j).2.2.1 ∈ TB) (ht : ty0 j = ty) (hfin : (T j).2.2.2 = false) : SO l D cid M X pc (o_put ok ci j) (pc + 3) := by
  intro lv st f bc bs k h hk H locs cells slots ls hlv hw hS hce hsl
  obtain ⟨v, a, r, rfl, hv, fs, hf, hjs, h⟩ := h
  have hjl : j < fs.length := is_len hjs
  obtain ⟨L, hL, hP, hD⟩ := hw
  obtain ⟨q0, hq⟩ := wl_get (cid := cid) hL hf
  refine va_put (own := M.1.cls) (D := D) (cl := Cl) hX.1 hX.2.1 hX.2.2.2.2.1 hin ty0 hty hnm hX.2.2.2.1 hX.2.2.2.2.2.1 hP hD hS q0 hq hc j hj (hX.2.2.2.2.1 _ hl) (fun _ h9 => h9) hfin ((hty j hj).trans (congrArg some ht)) (hok v hv).1 (hok v hv).2 hjl d (fun H1 locs1 hP1 hD1 hS1 => ?_)
  exact hk _ _ _ _ _ h H1 locs1 cells slots ls hlv (wl_put (c' := .inl (ci, fs.set j v)) hL hD hf hq hP1 hD1) hS1 hce hsl
theorem so_putF {ok : Value → Prop} {ty : FieldType} (hok : ∀ v, ok v → narrow ty v = v ∧ fits ty v = true) {C : String} {T : u_T} {N idx ci j : Nat} {ty0 : Nat → FieldType} (hX : OK l D cid M X Post) (d : decode M.2.1 pc = .ok (.putfield idx, 3)) (hin : ∀ w ∈ u_ws C T N, w ∈ TB) (hty : ∀ k, k < N → parseFieldDescriptor (T k).2.2.1 = some (ty0 k)) (hnm : ∀ a, a < N → ∀ b, b < N → a ≠ b → (T a).2.1 ≠ (T b).2.1)
    (hc : Cl[ci]? = some (C, T, N)) (hj : j < N) (hl : Cond.fieldLink M.1.cls idx (T j).1 (T j).2.1 (T j).2.2.1 ∈ TB) (ht : ty0 j = ty) (hfin : (T j).2.2.2 = true) (hi : M.1.name = "<init>") (hdecl : (T j).1 = M.1.cls) : SO l D cid M X pc (o_put ok ci j) (pc + 3) := by
  intro lv st f bc bs k h hk H locs cells slots ls hlv hw hS hce hsl
  obtain ⟨v, a, r, rfl, hv, fs, hf, hjs, h⟩ := h
  have hjl : j < fs.length := is_len hjs
  obtain ⟨L, hL, hP, hD⟩ := hw
  obtain ⟨q0, hq⟩ := wl_get (cid := cid) hL hf
  refine va_putF (own := M.1.cls) (D := D) (cl := Cl) hX.1 hX.2.1 hX.2.2.2.2.1 hin ty0 hty hnm hX.2.2.2.1 hX.2.2.2.2.2.1 hP hD hS q0 hq hc j hj (hX.2.2.2.2.1 _ hl) (fun _ h9 => h9) hfin (hX.2.2.2.2.2.2.2.1 hi) hdecl ((hty j hj).trans (congrArg some ht)) (hok v hv).1 (hok v hv).2 hjl d (fun H1 locs1 hP1 hD1 hS1 => ?_)
  exact hk _ _ _ _ _ h H1 locs1 cells slots ls hlv (wl_put (c' := .inl (ci, fs.set j v)) hL hD hf hq hP1 hD1) hS1 hce hsl
theorem ok_I : ∀ v, okI v → narrow .int v = v ∧ fits .int v = true := by
  rintro v ⟨x, rfl⟩
  exact ⟨rfl, rfl⟩
theorem ok_Z : ∀ v, okZ v → narrow .boolean v = v ∧ fits .boolean v = true := by
  rintro v (rfl | rfl) <;> exact ⟨by decide, by decide⟩
theorem ok_O (C : String) : ∀ v, okR v → narrow (.object C) v = v ∧ fits (.object C) v = true := by
  rintro v ⟨r, rfl⟩
  cases r <;> exact ⟨rfl, rfl⟩
theorem ok_A (t : FieldType) : ∀ v, okR v → narrow (.array t) v = v ∧ fits (.array t) v = true := by
  rintro v ⟨r, rfl⟩
  cases r <;> exact ⟨rfl, rfl⟩
theorem so_iald (hX : OK l D cid M X Post) (d : decode M.2.1 pc = .ok (.iaload, 1)) : SO l D cid M X pc (o_ald 0) (pc + 1) := by
  intro lv st f bc bs k h hk H locs cells slots ls hlv hw hS hce hsl
  obtain ⟨i, a, r, rfl, n, g, hf, hin, h⟩ := h
  obtain ⟨L, hL, hP, hD⟩ := hw
  obtain ⟨q0, hq⟩ := wl_get (cid := cid) hL hf
  exact va_iald (D := D) (cl := Cl) hX.1 hX.2.1 hX.2.2.2.2.2.1 hP q0 0 hq rfl hin d (hk _ _ _ _ _ h H locs cells slots ls hlv ⟨L, hL, hP, hD⟩ hS hce hsl)
theorem so_zald (hX : OK l D cid M X Post) (d : decode M.2.1 pc = .ok (.baload, 1)) : SO l D cid M X pc (o_ald 1) (pc + 1) := by
  intro lv st f bc bs k h hk H locs cells slots ls hlv hw hS hce hsl
  obtain ⟨i, a, r, rfl, n, g, hf, hin, h⟩ := h
  obtain ⟨L, hL, hP, hD⟩ := hw
  obtain ⟨q0, hq⟩ := wl_get (cid := cid) hL hf
  exact va_zald (D := D) (cl := Cl) hX.1 hX.2.1 hX.2.2.2.2.2.1 hP q0 1 hq rfl hin d (hk _ _ _ _ _ h H locs cells slots ls hlv ⟨L, hL, hP, hD⟩ hS hce hsl)
theorem so_iast (hX : OK l D cid M X Post) (d : decode M.2.1 pc = .ok (.iastore, 1)) : SO l D cid M X pc o_ast (pc + 1) := by
  intro lv st f bc bs k h hk H locs cells slots ls hlv hw hS hce hsl
  obtain ⟨x, i, a, r, rfl, n, g, hf, hin, h⟩ := h
  obtain ⟨L, hL, hP, hD⟩ := hw
  obtain ⟨q0, hq⟩ := wl_get (cid := cid) hL hf
  refine va_iast (D := D) (cl := Cl) hX.1 hX.2.1 hX.2.2.2.2.2.1 hP hD hS q0 0 hq rfl hin d (fun H1 locs1 hP1 hD1 hS1 => ?_)
  exact hk _ _ _ _ _ h H1 locs1 cells slots ls hlv (wl_put (c' := .inr (.inl (0, n, upd g i.toNatClampNeg x))) hL hD hf hq hP1 hD1) hS1 hce hsl
theorem so_zast (hX : OK l D cid M X Post) (d : decode M.2.1 pc = .ok (.bastore, 1)) : SO l D cid M X pc o_zst (pc + 1) := by
  intro lv st f bc bs k h hk H locs cells slots ls hlv hw hS hce hsl
  obtain ⟨x, i, a, r, rfl, hx, n, g, hf, hin, h⟩ := h
  obtain ⟨L, hL, hP, hD⟩ := hw
  obtain ⟨q0, hq⟩ := wl_get (cid := cid) hL hf
  have hz : vp_nar .boolean x = x := by rcases hx with rfl | rfl <;> decide
  refine va_zast (D := D) (cl := Cl) hX.1 hX.2.1 hX.2.2.2.2.2.1 hP hD hS q0 1 hq rfl hin d (fun H1 locs1 hP1 hD1 hS1 => ?_)
  rw [hz] at hP1 hD1
  exact hk _ _ _ _ _ h H1 locs1 cells slots ls hlv (wl_put (c' := .inr (.inl (1, n, upd g i.toNatClampNeg x))) hL hD hf hq hP1 hD1) hS1 hce hsl
theorem so_aldq {C : String} {kd : Nat} (hX : OK l D cid M X Post) (d : decode M.2.1 pc = .ok (.aaload, 1)) (ht : (tysL cid)[kd]? = some (cid kd, .object C)) : SO l D cid M X pc (o_aldq kd) (pc + 1) := by
  intro lv st f bc bs k h hk H locs cells slots ls hlv hw hS hce hsl
  obtain ⟨i, a, r, rfl, n, g, hf, hin, h⟩ := h
  obtain ⟨L, hL, hP, hD⟩ := hw
  obtain ⟨q0, hq⟩ := wl_get (cid := cid) hL hf
  exact va_aldq (D := D) (cl := Cl) hX.1 hX.2.1 hX.2.2.2.2.2.1 hP q0 kd hq ht hin d (hk _ _ _ _ _ h H locs cells slots ls hlv ⟨L, hL, hP, hD⟩ hS hce hsl)
theorem so_astq {r0 : vw_C} {kd ci : Nat} (hX : OK l D cid M X Post) (d : decode M.2.1 pc = .ok (.aastore, 1)) (ht : (tysL cid)[kd]? = some (cid kd, .object r0.1)) (hc : Cl[ci]? = some r0) : SO l D cid M X pc (o_astq kd ci) (pc + 1) := by
  intro lv st f bc bs k h hk H locs cells slots ls hlv hw hS hce hsl
  obtain ⟨w, i, a, r, rfl, hv, n, g, hf, hin, h⟩ := h
  obtain ⟨L, hL, hP, hD⟩ := hw
  obtain ⟨q0, hq⟩ := wl_get (cid := cid) hL hf
  cases w with
  | none =>
    refine va_astqN (D := D) (cl := Cl) hX.1 hX.2.1 hX.2.2.2.2.2.1 hP hD hS q0 kd hq ht hin d (fun H1 locs1 hP1 hD1 hS1 => ?_)
    exact hk _ _ _ _ _ h H1 locs1 cells slots ls hlv (wl_put (c' := .inr (.inr (kd, n, va_up g i.toNatClampNeg none))) hL hD hf hq hP1 hD1) hS1 hce hsl
  | some v =>
    obtain ⟨vs, hvs⟩ := hv v rfl
    obtain ⟨q1, hq1⟩ := wl_get (cid := cid) hL hvs
    refine va_astq (D := D) (cl := Cl) hX.1 hX.2.1 hX.2.2.2.2.2.1 hP hD hS q0 kd q1 ci hq ht hq1 hc hin d (fun H1 locs1 hP1 hD1 hS1 => ?_)
    exact hk _ _ _ _ _ h H1 locs1 cells slots ls hlv (wl_put (c' := .inr (.inr (kd, n, va_up g i.toNatClampNeg (some v)))) hL hD hf hq hP1 hD1) hS1 hce hsl
theorem so_alen {kd : Nat} {ty : FieldType} (hX : OK l D cid M X Post) (d : decode M.2.1 pc = .ok (.arraylength, 1)) (ht : (tysL cid)[kd]? = some (cid kd, ty)) : SO l D cid M X pc (o_alen kd) (pc + 1) := by
  intro lv st f bc bs k h hk H locs cells slots ls hlv hw hS hce hsl
  obtain ⟨a, r, rfl, n, g, hf, h⟩ := h
  obtain ⟨L, hL, hP, hD⟩ := hw
  obtain ⟨q0, hq⟩ := wl_get (cid := cid) hL hf
  exact va_alen (D := D) (cl := Cl) hX.1 hX.2.1 hX.2.2.2.2.2.1 hP q0 kd hq ht rfl d (hk _ _ _ _ _ h H locs cells slots ls hlv ⟨L, hL, hP, hD⟩ hS hce hsl)
theorem so_alenq {kd : Nat} {ty : FieldType} (hX : OK l D cid M X Post) (d : decode M.2.1 pc = .ok (.arraylength, 1)) (ht : (tysL cid)[kd]? = some (cid kd, ty)) : SO l D cid M X pc (o_alenq kd) (pc + 1) := by
  intro lv st f bc bs k h hk H locs cells slots ls hlv hw hS hce hsl
  obtain ⟨a, r, rfl, n, g, hf, h⟩ := h
  obtain ⟨L, hL, hP, hD⟩ := hw
  obtain ⟨q0, hq⟩ := wl_get (cid := cid) hL hf
  exact va_alen (D := D) (cl := Cl) hX.1 hX.2.1 hX.2.2.2.2.2.1 hP q0 kd hq ht rfl d (hk _ _ _ _ _ h H locs cells slots ls hlv ⟨L, hL, hP, hD⟩ hS hce hsl)
theorem tys_same {cA : ClassId} {kd : Nat} {ty : FieldType} {s : State} (hK : va_K D Cl (tysL cid) s) (ht : (tysL cid)[kd]? = some (cid kd, ty)) (hr : va_RA s cA ty) : cA = cid kd := by
  have h1 := (hK.2 kd _ ht).2
  cases ty with
  | object C =>
    obtain ⟨_, _, _, _, _, h2⟩ := h1
    obtain ⟨_, _, _, _, _, h3⟩ := hr
    exact Option.some.inj (h3.symm.trans h2)
  | _ => exact Option.some.inj ((show s.vm.findClass _ = some cA from hr).symm.trans (show s.vm.findClass _ = some (cid kd) from h1))
theorem tys_last {cA : ClassId} {ty : FieldType} {s : State} {tys : List (ClassId × FieldType)} (hK : va_K D Cl (tys ++ [(cA, ty)]) s) : va_RA s cA ty := (hK.2 tys.length (cA, ty) (by simp)).2
theorem so_newI {atype : ArrayType} {kd : Nat} {ty : FieldType} (hX : OK l D cid M X Post) (d : decode M.2.1 pc = .ok (.newarray atype, 2)) (hty : newarray.typeOf atype = ty) (harr : Cond.arrayClass (newarray.typeOf atype) ∈ TB) (ht : (tysL cid)[kd]? = some (cid kd, ty)) (hb : componentBytes ty ≤ 4)
    (h0 : ∀ (cA : ClassId) (N : Nat), vp_cell cA (N, .inl (fun _ => (0 : Int32))) = arrV cA N (fun _ => defaultValue ty)) : SO l D cid M X pc (o_newI kd) (pc + 2) := by
  intro lv st f bc bs k h hk H locs cells slots ls hlv hw hS hce hsl
  obtain ⟨n, r, rfl, hn, hN, h1, h2, h⟩ := h
  obtain ⟨L, hL, hP, hD⟩ := hw
  refine va_newa (D := D) (cl := Cl) (a0 := (n.toNatClampNeg, .inl (fun _ => (0 : Int32)))) hX.1 hX.2.1 (hX.2.2.2.2.1 _ harr) hty hX.2.2.2.2.2.1 hP hD hS hX.2.2.2.2.2.2.1 (fun cA => h0 cA _) hn rfl (Nat.le_trans (Nat.mul_le_mul hN hb) (by decide)) (by omega) (by omega) d (fun q cA H1 hK1 hP1 hD1 hS1 => ?_)
  have hcA : cA = cid kd := tys_same hX.2.2.2.2.2.1 ht (tys_last hK1)
  subst hcA
  obtain ⟨hq, hw1⟩ := wl_new (c := .inr (.inl (kd, n.toNatClampNeg, fun _ => 0))) hL hP1 hD1
  exact hk _ _ _ _ _ (h q hq) H1 locs (cells + 1) (slots + n.toNatClampNeg) ls hlv hw1 hS1 (by omega) (by omega)
theorem so_newQ {C : String} {kd idx : Nat} (hX : OK l D cid M X Post) (d : decode M.2.1 pc = .ok (.anewarray idx, 3)) (hcl : Cond.classLink M.1.cls idx C ∈ TB) (hov : va_AO C X.2.2.1) (ht : (tysL cid)[kd]? = some (cid kd, .object C)) : SO l D cid M X pc (o_newQ kd) (pc + 3) := by
  intro lv st f bc bs k h hk H locs cells slots ls hlv hw hS hce hsl
  obtain ⟨n, r, rfl, hn, hN, h1, h2, h⟩ := h
  obtain ⟨L, hL, hP, hD⟩ := hw
  refine va_newq (own := M.1.cls) (D := D) (cl := Cl) (C := C) hX.1 hX.2.1 hX.2.2.2.1 (hX.2.2.2.2.1 _ hcl) hov hX.2.2.2.2.2.1 hP hD hS hX.2.2.2.2.2.2.1 hn rfl (Nat.le_trans (Nat.mul_le_mul hN (Nat.le_refl 4)) (by decide)) (by omega) (by omega) d (fun q cA H1 hK1 hP1 hD1 hS1 => ?_)
  have hcA : cA = cid kd := tys_same hX.2.2.2.2.2.1 ht (tys_last hK1)
  subst hcA
  obtain ⟨hq, hw1⟩ := wl_new (c := .inr (.inr (kd, n.toNatClampNeg, fun _ => none))) hL hP1 hD1
  exact hk _ _ _ _ _ (h q hq) H1 locs (cells + 1) (slots + n.toNatClampNeg) ls hlv hw1 hS1 (by omega) (by omega)
theorem so_new {C : String} {T : u_T} {N idx ci : Nat} {fs : List Value} {ty0 : Nat → FieldType} (hX : OK l D cid M X Post) (d : decode M.2.1 pc = .ok (.new idx, 3)) (hin : ∀ w ∈ u_ws C T N, w ∈ TB) (hty : ∀ k, k < N → parseFieldDescriptor (T k).2.2.1 = some (ty0 k)) (hcl : Cond.classLink M.1.cls idx C ∈ TB) (hinst : Cond.instantiable C N ∈ TB) (hini : Cond.initialized C ∈ TB)
    (hc : Cl[ci]? = some (C, T, N)) (hfs : ∀ j, j < N → defaultValue (ty0 j) = vp_V fs j) : SO l D cid M X pc (o_new ci N fs) (pc + 3) := by
  intro lv st f bc bs k h hk H locs cells slots ls hlv hw hS hce hsl
  obtain ⟨h1, h2, h⟩ := h
  obtain ⟨L, hL, hP, hD⟩ := hw
  refine va_new (own := M.1.cls) (D := D) (cl := Cl) hX.1 hX.2.1 hX.2.2.2.2.1 hin ty0 hty hX.2.2.2.1 (hX.2.2.2.2.1 _ hcl) (hX.2.2.2.2.1 _ hinst) (hX.2.2.2.2.1 _ hini) hX.2.2.2.2.2.1 hP hD hS hX.2.2.2.2.2.2.1 hc hfs (by omega) (by omega) d (fun q H1 hP1 hD1 hS1 => ?_)
  obtain ⟨hq, hw1⟩ := wl_new (c := .inl (ci, fs)) hL hP1 hD1
  exact hk _ _ _ _ _ (h q hq) H1 locs (cells + 1) (slots + N) ls hlv hw1 hS1 (by omega) (by omega)
theorem so_goto {off : Int} {tgt : Nat} (hX : OK l D cid M X Post) (d : decode M.2.1 pc = .ok (.goto off, 3)) (ht : (pc : Int) + off = (tgt : Int)) : SS l D cid M X pc [] (FR l D cid M X tgt) := by
  intro lv st f bc bs h H locs cells slots ls hlv hw hS hce hsl
  exact lv_goto hX.1 hX.2.1 d ht (h H locs cells slots ls hlv hw hS hce hsl)
end SOUND
end
section
section ENDS
variable {l : Launch} {D : va_G} {cid : Nat → ClassId} {M : MT} {X : CT} {Post : PT} {pc : Nat}
theorem st_icmp_eq {off : Int} {tgt : Nat} (hX : OK l D cid M X Post) (d : decode M.2.1 pc = .ok (.if_icmp .eq off, 3)) (ht : (pc : Int) + off = (tgt : Int)) : SS l D cid M X pc [] (t_cmp (fun x y => x = y) (FR l D cid M X tgt) (FR l D cid M X (pc + 3))) := by
  intro lv st f bc bs h H locs cells slots ls hlv hw hS hce hsl
  obtain ⟨x, y, r, rfl, h1, h2⟩ := h
  exact lv_icmp_eq hX.1 hX.2.1 d ht (fun q => h1 q H locs cells slots ls hlv hw hS hce hsl) (fun q => h2 q H locs cells slots ls hlv hw hS hce hsl)
theorem st_icmp_ne {off : Int} {tgt : Nat} (hX : OK l D cid M X Post) (d : decode M.2.1 pc = .ok (.if_icmp .ne off, 3)) (ht : (pc : Int) + off = (tgt : Int)) : SS l D cid M X pc [] (t_cmp (fun x y => ¬ x = y) (FR l D cid M X tgt) (FR l D cid M X (pc + 3))) := by
  intro lv st f bc bs h H locs cells slots ls hlv hw hS hce hsl
  obtain ⟨x, y, r, rfl, h1, h2⟩ := h
  exact lv_icmp_ne hX.1 hX.2.1 d ht (fun q => h1 q H locs cells slots ls hlv hw hS hce hsl) (fun q => h2 (fun z => z q) H locs cells slots ls hlv hw hS hce hsl)
theorem st_icmp_lt {off : Int} {tgt : Nat} (hX : OK l D cid M X Post) (d : decode M.2.1 pc = .ok (.if_icmp .lt off, 3)) (ht : (pc : Int) + off = (tgt : Int)) : SS l D cid M X pc [] (t_cmp (fun x y => x < y) (FR l D cid M X tgt) (FR l D cid M X (pc + 3))) := by
  intro lv st f bc bs h H locs cells slots ls hlv hw hS hce hsl
  obtain ⟨x, y, r, rfl, h1, h2⟩ := h
  exact lv_icmp_lt hX.1 hX.2.1 d ht (fun q => h1 q H locs cells slots ls hlv hw hS hce hsl) (fun q => h2 q H locs cells slots ls hlv hw hS hce hsl)
theorem st_icmp_ge {off : Int} {tgt : Nat} (hX : OK l D cid M X Post) (d : decode M.2.1 pc = .ok (.if_icmp .ge off, 3)) (ht : (pc : Int) + off = (tgt : Int)) : SS l D cid M X pc [] (t_cmp (fun x y => y ≤ x) (FR l D cid M X tgt) (FR l D cid M X (pc + 3))) := by
  intro lv st f bc bs h H locs cells slots ls hlv hw hS hce hsl
  obtain ⟨x, y, r, rfl, h1, h2⟩ := h
  exact lv_icmp_ge hX.1 hX.2.1 d ht (fun q => h1 q H locs cells slots ls hlv hw hS hce hsl) (fun q => h2 q H locs cells slots ls hlv hw hS hce hsl)
theorem st_icmp_gt {off : Int} {tgt : Nat} (hX : OK l D cid M X Post) (d : decode M.2.1 pc = .ok (.if_icmp .gt off, 3)) (ht : (pc : Int) + off = (tgt : Int)) : SS l D cid M X pc [] (t_cmp (fun x y => y < x) (FR l D cid M X tgt) (FR l D cid M X (pc + 3))) := by
  intro lv st f bc bs h H locs cells slots ls hlv hw hS hce hsl
  obtain ⟨x, y, r, rfl, h1, h2⟩ := h
  exact lv_icmp_gt hX.1 hX.2.1 d ht (fun q => h1 q H locs cells slots ls hlv hw hS hce hsl) (fun q => h2 q H locs cells slots ls hlv hw hS hce hsl)
theorem st_icmp_le {off : Int} {tgt : Nat} (hX : OK l D cid M X Post) (d : decode M.2.1 pc = .ok (.if_icmp .le off, 3)) (ht : (pc : Int) + off = (tgt : Int)) : SS l D cid M X pc [] (t_cmp (fun x y => x ≤ y) (FR l D cid M X tgt) (FR l D cid M X (pc + 3))) := by
  intro lv st f bc bs h H locs cells slots ls hlv hw hS hce hsl
  obtain ⟨x, y, r, rfl, h1, h2⟩ := h
  exact lv_icmp_le hX.1 hX.2.1 d ht (fun q => h1 q H locs cells slots ls hlv hw hS hce hsl) (fun q => h2 q H locs cells slots ls hlv hw hS hce hsl)
theorem st_if_eq {off : Int} {tgt : Nat} (hX : OK l D cid M X Post) (d : decode M.2.1 pc = .ok (.ifCond .eq off, 3)) (ht : (pc : Int) + off = (tgt : Int)) : SS l D cid M X pc [] (t_if (fun x => x = 0) (FR l D cid M X tgt) (FR l D cid M X (pc + 3))) := by
  intro lv st f bc bs h H locs cells slots ls hlv hw hS hce hsl
  obtain ⟨x, r, rfl, h1, h2⟩ := h
  exact lv_if_eq hX.1 hX.2.1 d ht (fun q => h1 q H locs cells slots ls hlv hw hS hce hsl) (fun q => h2 q H locs cells slots ls hlv hw hS hce hsl)
theorem st_if_ne {off : Int} {tgt : Nat} (hX : OK l D cid M X Post) (d : decode M.2.1 pc = .ok (.ifCond .ne off, 3)) (ht : (pc : Int) + off = (tgt : Int)) : SS l D cid M X pc [] (t_if (fun x => ¬ x = 0) (FR l D cid M X tgt) (FR l D cid M X (pc + 3))) := by
  intro lv st f bc bs h H locs cells slots ls hlv hw hS hce hsl
  obtain ⟨x, r, rfl, h1, h2⟩ := h
  exact lv_if_ne hX.1 hX.2.1 d ht (fun q => h1 q H locs cells slots ls hlv hw hS hce hsl) (fun q => h2 (fun z => z q) H locs cells slots ls hlv hw hS hce hsl)
theorem st_if_lt {off : Int} {tgt : Nat} (hX : OK l D cid M X Post) (d : decode M.2.1 pc = .ok (.ifCond .lt off, 3)) (ht : (pc : Int) + off = (tgt : Int)) : SS l D cid M X pc [] (t_if (fun x => x < 0) (FR l D cid M X tgt) (FR l D cid M X (pc + 3))) := by
  intro lv st f bc bs h H locs cells slots ls hlv hw hS hce hsl
  obtain ⟨x, r, rfl, h1, h2⟩ := h
  exact lv_if_lt hX.1 hX.2.1 d ht (fun q => h1 q H locs cells slots ls hlv hw hS hce hsl) (fun q => h2 q H locs cells slots ls hlv hw hS hce hsl)
theorem st_if_ge {off : Int} {tgt : Nat} (hX : OK l D cid M X Post) (d : decode M.2.1 pc = .ok (.ifCond .ge off, 3)) (ht : (pc : Int) + off = (tgt : Int)) : SS l D cid M X pc [] (t_if (fun x => 0 ≤ x) (FR l D cid M X tgt) (FR l D cid M X (pc + 3))) := by
  intro lv st f bc bs h H locs cells slots ls hlv hw hS hce hsl
  obtain ⟨x, r, rfl, h1, h2⟩ := h
  exact lv_if_ge hX.1 hX.2.1 d ht (fun q => h1 q H locs cells slots ls hlv hw hS hce hsl) (fun q => h2 q H locs cells slots ls hlv hw hS hce hsl)
theorem st_if_gt {off : Int} {tgt : Nat} (hX : OK l D cid M X Post) (d : decode M.2.1 pc = .ok (.ifCond .gt off, 3)) (ht : (pc : Int) + off = (tgt : Int)) : SS l D cid M X pc [] (t_if (fun x => 0 < x) (FR l D cid M X tgt) (FR l D cid M X (pc + 3))) := by
  intro lv st f bc bs h H locs cells slots ls hlv hw hS hce hsl
  obtain ⟨x, r, rfl, h1, h2⟩ := h
  exact lv_if_gt hX.1 hX.2.1 d ht (fun q => h1 q H locs cells slots ls hlv hw hS hce hsl) (fun q => h2 q H locs cells slots ls hlv hw hS hce hsl)
theorem st_if_le {off : Int} {tgt : Nat} (hX : OK l D cid M X Post) (d : decode M.2.1 pc = .ok (.ifCond .le off, 3)) (ht : (pc : Int) + off = (tgt : Int)) : SS l D cid M X pc [] (t_if (fun x => x ≤ 0) (FR l D cid M X tgt) (FR l D cid M X (pc + 3))) := by
  intro lv st f bc bs h H locs cells slots ls hlv hw hS hce hsl
  obtain ⟨x, r, rfl, h1, h2⟩ := h
  exact lv_if_le hX.1 hX.2.1 d ht (fun q => h1 q H locs cells slots ls hlv hw hS hce hsl) (fun q => h2 q H locs cells slots ls hlv hw hS hce hsl)
theorem st_ifnull {off : Int} {tgt : Nat} (hX : OK l D cid M X Post) (d : decode M.2.1 pc = .ok (.ifnull off, 3)) (ht : (pc : Int) + off = (tgt : Int)) : SS l D cid M X pc [] (t_null (FR l D cid M X tgt) (FR l D cid M X (pc + 3))) := by
  intro lv st f bc bs h H locs cells slots ls hlv hw hS hce hsl
  obtain ⟨v, r, rfl, h1, h2⟩ := h
  cases v with
  | none => exact lv_ifnullN hX.1 hX.2.1 d ht (h1 rfl H locs cells slots ls hlv hw hS hce hsl)
  | some a => exact lv_ifnull hX.1 hX.2.1 d (h2 a rfl H locs cells slots ls hlv hw hS hce hsl)
theorem st_ifnonnull {off : Int} {tgt : Nat} (hX : OK l D cid M X Post) (d : decode M.2.1 pc = .ok (.ifnonnull off, 3)) (ht : (pc : Int) + off = (tgt : Int)) : SS l D cid M X pc [] (t_null (FR l D cid M X (pc + 3)) (FR l D cid M X tgt)) := by
  intro lv st f bc bs h H locs cells slots ls hlv hw hS hce hsl
  obtain ⟨v, r, rfl, h1, h2⟩ := h
  cases v with
  | none => exact lv_ifnonnullN hX.1 hX.2.1 d (h1 rfl H locs cells slots ls hlv hw hS hce hsl)
  | some a => exact lv_ifnonnull hX.1 hX.2.1 d ht (h2 a rfl H locs cells slots ls hlv hw hS hce hsl)
theorem st_sw {dflt lo hi : Int} {offs : Array Int} {len : Nat} {tgts : List Nat} {td : Nat} (hX : OK l D cid M X Post) (d : decode M.2.1 pc = .ok (.tableswitch dflt lo hi offs, len)) (hlen : (tgts.length : Int) = hi - lo + 1) (ho : offs.toList.map (fun (o : Int) => (pc : Int) + o) = tgts.map (fun (t : Nat) => (t : Int))) (htd : (pc : Int) + dflt = (td : Int)) :
    SS l D cid M X pc [] (t_sw lo hi (tgts.map (fun t => FR l D cid M X t)) (FR l D cid M X td)) := by
  intro lv st f bc bs h H locs cells slots ls hlv hw hS hce hsl
  obtain ⟨x, r, rfl, h1, h2⟩ := h
  by_cases hx : x.toInt < lo ∨ hi < x.toInt
  · exact lv_tableOut hX.1 hX.2.1 d hx htd (h1 hx H locs cells slots ls hlv hw hS hce hsl)
  · have ha : ¬ x.toInt < lo := fun q => hx (Or.inl q)
    have hb : ¬ hi < x.toInt := fun q => hx (Or.inr q)
    have hi2 : (x.toInt - lo).toNat < tgts.length := by omega
    obtain ⟨t, htt⟩ : ∃ t, tgts[(x.toInt - lo).toNat]? = some t := ⟨_, List.getElem?_eq_getElem hi2⟩
    have h3 := congrArg (fun z => z[(x.toInt - lo).toNat]?) ho
    simp only [List.getElem?_map, htt, Option.map_some] at h3
    cases hoo : offs.toList[(x.toInt - lo).toNat]? with
    | none => rw [hoo] at h3; cases h3
    | some off =>
      rw [hoo] at h3
      have h4 : (pc : Int) + off = (t : Int) := Option.some.inj h3
      refine lv_tableIn hX.1 hX.2.1 d ha hb (off := off) (tgt := t) (by rw [← Array.getElem?_toList]; exact hoo) h4 ?_
      exact h2 (x.toInt - lo).toNat (FR l D cid M X t) (by omega) (by simp [htt]) H locs cells slots ls hlv hw hS hce hsl
theorem st_ret (hX : OK l D cid M X Post) (d : decode M.2.1 pc = .ok (.return_, 1)) (hr : M.2.2.2.1 = none) : SS l D cid M X pc [] (t_ret Post) := by
  intro lv st f bc bs h H locs cells slots ls hlv hw hS hce hsl
  obtain ⟨rfl, h⟩ := h
  exact hX.2.2.2.2.2.2.2.2.2 pc ls H locs cells slots none f (Or.inl ⟨rfl, hr, d⟩) h hw hS (by omega) (by omega)
theorem st_iret (hX : OK l D cid M X Post) (d : decode M.2.1 pc = .ok (.ireturn, 1)) (hr : M.2.2.2.1 = some .int) : SS l D cid M X pc [] (t_iret Post) := by
  intro lv st f bc bs h H locs cells slots ls hlv hw hS hce hsl
  obtain ⟨x, rfl, h⟩ := h
  exact hX.2.2.2.2.2.2.2.2.2 pc ls H locs cells slots (some (.int x)) f (Or.inr (Or.inl ⟨x, rfl, hr, d⟩)) h hw hS (by omega) (by omega)
theorem st_zret (hX : OK l D cid M X Post) (d : decode M.2.1 pc = .ok (.ireturn, 1)) (hr : M.2.2.2.1 = some .boolean) : SS l D cid M X pc [] (t_zret Post) := by
  intro lv st f bc bs h H locs cells slots ls hlv hw hS hce hsl
  obtain ⟨x, rfl, hx, h⟩ := h
  exact hX.2.2.2.2.2.2.2.2.2 pc ls H locs cells slots (some (.int x)) f (Or.inr (Or.inr (Or.inl ⟨x, rfl, hx, hr, d⟩))) h hw hS (by omega) (by omega)
theorem st_aret {n : String} (hX : OK l D cid M X Post) (d : decode M.2.1 pc = .ok (.areturn, 1)) (hr : M.2.2.2.1 = some (.object n)) : SS l D cid M X pc [] (t_aret Post) := by
  intro lv st f bc bs h H locs cells slots ls hlv hw hS hce hsl
  obtain ⟨r, rfl, h⟩ := h
  exact hX.2.2.2.2.2.2.2.2.2 pc ls H locs cells slots (some (va_rf r)) f (Or.inr (Or.inr (Or.inr ⟨r, n, rfl, hr, d⟩))) h hw hS (by omega) (by omega)
theorem cat_sum : ∀ r : List Value, (r.map fun v => v.category).sum ≤ 2 * r.length
  | [] => by simp
  | v :: vs => by
    have h1 := cat_sum vs
    have h2 : v.category ≤ 2 := by rcases lv_cat v with h | h <;> omega
    simp only [List.map_cons, List.sum_cons, List.length_cons]
    omega
theorem so_obj {idx : Nat} (hX : OK l D cid M X Post) (d : decode M.2.1 pc = .ok (.invokespecial idx, 3)) (h1 : Cond.methodLink M.1.cls idx Lib.objectInit ∈ TB) (h2 : Cond.instanceMethod Lib.objectInit ∈ TB) (h3 : Cond.code Lib.objectInit ⟨#[0xb1]⟩ 1 none ∈ TB) (hf : 1 ≤ M.2.2.2.2.frames) (hlo : 20 ≤ M.2.2.2.2.locals) : SO l D cid M X pc o_obj (pc + 3) := by
  intro lv st f bc bs k h hk H locs cells slots ls hlv hw hS hce hsl
  obtain ⟨a, r, rfl, hr, h⟩ := h
  have hsum := cat_sum r
  have hroom := lv_room (m := X.2.2.2.1) (pc := pc) (ls := ls) (rest := Value.ref a :: r) (st := r) (by omega)
  refine W.objInit hX.1 hX.2.1 hX.2.2.2.1 (hX.2.2.2.2.1 _ h1) (hX.2.2.2.2.1 _ h2) (hX.2.2.2.2.1 _ h3) rfl (by rw [hX.2.2.1]; exact hlv.size) rfl d hf (by omega) ?_
  exact W.eq (g2 := F0 X.2.2.2.1 (pc + 3) ls r) rfl (hk _ _ _ _ _ h H locs cells slots ls hlv hw hS hce hsl)
def Afs (f : HF) (sz : Nat) : Nat → Prop := fun q => (∃ c, f q = some c) ∨ sz ≤ q
def QQ (D : va_G) (cid : Nat → ClassId) (Post : PT) (A : Nat → Prop) : Array Value → State → Outcome → State → Prop := fun _ st oc t => (∃ (v : Option Value) (f' : HF), oc = .returned v ∧ Post v f' ∧ Wld D Cl cid A f' t.heap ∧ va_K D Cl (tysL cid) t) ∧ va_F A st t
def PPc (D : va_G) (cid : Nat → ClassId) (args : List Value) (f : HF) (sz : Nat) : Array Value → State → Prop := va_Pc args (fun U => U.heap.size = sz ∧ Wld D Cl cid (fun _ => True) f U.heap ∧ va_K D Cl (tysL cid) U ∧ EX U)
theorem pl_dom {f : HF} {L : List Nat} {k : Nat} {q : Nat × va_E} (hL : dom L f) (h : (va_pl L (fe cid f))[k]? = some q) : ∃ c, f q.1 = some c := by
  have hm := List.mem_of_getElem? h
  obtain ⟨a, ha, rfl⟩ := List.mem_map.mp hm
  exact (hL a).mp ha
theorem Wld.weaken {A B : Nat → Prop} {f : HF} {H : Heap} (h : Wld D Cl cid A f H) (hAB : ∀ q, (∃ c, f q = some c) → A q → B q) : Wld D Cl cid B f H := by
  obtain ⟨L, hL, hP, hD⟩ := h
  exact ⟨L, hL, hP, hD.weaken (fun k q hk ha => hAB q.1 (pl_dom hL hk) ha)⟩
theorem sl_len : ∀ vs : List Value, (∀ v ∈ vs, v.category = 1) → (lg_sl vs).length = vs.length
  | [], _ => rfl
  | v :: vs, h => by
    have h1 := sl_len vs (fun w hw => h w (List.mem_cons_of_mem _ hw))
    have h2 : ¬ v.category = 2 := by rw [h v List.mem_cons_self]; decide
    simp only [lg_sl, List.flatMap_cons, if_neg h2, List.length_append, List.length_cons, List.length_nil] at h1 ⊢
    omega
theorem args_in : ∀ (vs : List Value) (j n i : Nat) (v : Value), (∀ w ∈ vs, w.category = 1) → lget (vs.map some ++ List.replicate n none) i = some v → (j + i, v) ∈ lv_args j vs ∧ v.category = 1
  | [], j, n, i, v, _, h => by
    exfalso
    rw [List.map_nil, List.nil_append] at h
    induction n generalizing i with
    | zero => simp [lget] at h
    | succ n ih =>
      rw [List.replicate_succ] at h
      cases i with
      | zero => rw [lget_0] at h; cases h
      | succ i => rw [lget_s] at h; exact ih i h
  | w :: vs, j, n, i, v, hc, h => by
    have hw1 : w.category = 1 := hc w List.mem_cons_self
    have hw2 : ¬ w.category = 2 := by rw [hw1]; decide
    rw [List.map_cons, List.cons_append] at h
    cases i with
    | zero =>
      rw [lget_0] at h
      cases h
      exact ⟨List.mem_cons_self, hw1⟩
    | succ i =>
      rw [lget_s] at h
      obtain ⟨h1, h2⟩ := args_in vs (j + 1) n i v (fun q hq => hc q (List.mem_cons_of_mem _ hq)) h
      refine ⟨?_, h2⟩
      show (j + (i + 1), v) ∈ (j, w) :: lv_args (if w.category = 2 then j + 2 else j + 1) vs
      rw [if_neg hw2, show j + (i + 1) = j + 1 + i by omega]
      exact List.mem_cons_of_mem _ h1
theorem met_F {y : MethodName} {ws ws' : List Cond} {rm : Room} {Pc : Array Value → State → Prop} {Qc : Array Value → State → Outcome → State → Prop} {mc ms : Nat} {free : Addr → Prop} {cc : ByteArray} {maxL : Nat} {rt : Option FieldType}
    (hy : plainFor y = true) (hw : ws = Cond.code y cc maxL rt :: ws')
    (body : ∀ p e s m args below meth c s₁, BodyLoose p l y (headSpec ws rm) cc maxL rt e s m args below meth c s₁ → c.maxLocals = maxL → Pc args s → W p l e (headSpec ws rm).room s m args below meth c s.heap [] 0 0 (MQ below Qc args s mc ms free) (entryFrame m args maxL)) : Met l y ws rm Pc Qc mc ms free := by
  refine MetFree.of_bodySF (code := cc) (maxLocals := maxL) (ret := rt) hy (fun args s m h hn => ?_) (fun p e s m args below meth c s₁ B hml hP _ => ?_)
  · have hc := atoms_spec (ws := ws) h (Cond.code y cc maxL rt) (by rw [hw]; exact List.mem_cons_self)
    obtain ⟨meth, c, k1, k2, k3, k4, k5, k6, -⟩ := Cond.code_spec hn hc
    exact ⟨meth, c, k1, k2, k3, k4, k5, k6⟩
  · have hh : s₁.heap = s.heap := by rw [B.state]; rfl
    obtain ⟨t, w1, o, w2, w3, w4⟩ := body p e s m args below meth c s₁ B hml hP s₁ hh (Stand.of_body B)
    exact ⟨t, o, w1, w2, w3, w4.1, w4.2⟩
theorem ctr {args : List Value} {f : HF} {sz : Nat} (hy : plainFor M.1 = true) (hn : args.length ≤ M.2.2.1) (hcat : ∀ v ∈ args, v.category = 1) (h : CS l D cid M args f Post) :
    Met l M.1 (.code M.1 M.2.1 M.2.2.1 M.2.2.2.1 :: TB) M.2.2.2.2 (PPc D cid args f sz) (QQ D cid Post (Afs f sz)) M.2.2.2.2.cells M.2.2.2.2.slots (Afs f sz) := by
  refine met_F (cc := M.2.1) (maxL := M.2.2.1) (rt := M.2.2.2.1) hy rfl ?_
  intro p e s m args' below meth c s₁ B hml hv
  obtain ⟨rfl, hsz, hW, hK, hEX⟩ := hv
  subst hsz
  have hts := atoms_spec (ws := .code M.1 M.2.1 M.2.2.1 M.2.2.2.1 :: TB) B.pre
  have hlocks := B.notSynchronized
  have hX : OK l D cid M (p, e, s, m, args.toArray, below, meth, c, Afs f s.heap.size, MQ below (QQ D cid Post (Afs f s.heap.size)) args.toArray s M.2.2.2.2.cells M.2.2.2.2.slots (Afs f s.heap.size)) Post := by
    refine ⟨B.exec, B.bytes, hml, findClass_of_methodNamed B.named, fun w hw => hts w (List.mem_cons_of_mem _ hw), hK, fun q hq => Or.inr hq, fun hi => ?_, hEX, ?_⟩
    · exact (name_of_methodNamed B.named B.method).1.trans hi
    · intro pc ls H locs cells slots v f' hr hp hw hS hc hs
      refine W.widen hc hs ?_
      have hq : ∀ t : State, t.heap = H → s.WarmedH t.vm → QQ D cid Post (Afs f s.heap.size) args.toArray s (.returned v) t := fun t ht hWm => ⟨⟨v, f', rfl, hp, by rw [ht]; exact hw, va_K.moved hWm.alike hK⟩, hS.F ht⟩
      rcases hr with ⟨rfl, h1, h2⟩ | ⟨x, rfl, h1, h2⟩ | ⟨x, rfl, h0, h1, h2⟩ | ⟨r, n, rfl, h1, h2⟩
      · exact W.vret B.exec B.bytes (B.returns.trans h1) hq hS.2.2 h2
      · exact W.iret B.exec B.bytes (B.returns.trans h1) hq hS.2.2 h2
      · exact W.zret B.exec B.bytes (B.returns.trans h1) (by rcases h0 with rfl | rfl <;> decide) hq hS.2.2 h2
      · exact W.aret B.exec B.bytes (B.returns.trans h1) (Or.inl ⟨n, rfl⟩) (va_rf_or r) hq hS.2.2 h2
  have hl := lv_entry args (n := M.2.2.1) (by rw [sl_len args hcat]; exact hn)
  rw [lg_entry_eq]
  refine h _ hX s.heap [] 0 0 _ ⟨_, hl, fun i v hv => ?_⟩ (hW.weaken (fun q hq _ => Or.inl hq)) va_S.rf (by omega) (by omega)
  have := args_in args 0 _ i v hcat hv
  rw [Nat.zero_add] at this
  exact this
theorem call_end {M' : MT} {f : HF} {H : Heap} {locs : List Loc} {cells slots bc bs : Nat} {ls : Array Slot} {lv : LV} {st r : List Value} {k : KN} {a : Array Value} (hX : OK l D cid M X Post)
    (hr : va_Run X.1 l X.2.1 M.2.2.2.2 X.2.2.1 X.2.2.2.1 X.2.2.2.2.1 X.2.2.2.2.2.1 X.2.2.2.2.2.2.1 X.2.2.2.2.2.2.2.1 H locs cells slots M'.2.2.2.2.cells M'.2.2.2.2.slots (F0 X.2.2.2.1 pc ls st) r (QQ D cid (fun v f' => k lv (vst v r) f' (bc - M'.2.2.2.2.cells) (bs - M'.2.2.2.2.slots)) (Afs f H.size) a) (Afs f H.size))
    (hlv : lvr ls M.2.2.1 lv) (hw : Wld D Cl cid X.2.2.2.2.2.2.2.2.1 f H) (hS : va_S X.2.2.2.2.2.2.2.2.1 X.2.2.1.heap H locs) (hce : cells + bc ≤ M.2.2.2.2.cells) (hsl : slots + bs ≤ M.2.2.2.2.slots) (h1 : M'.2.2.2.2.cells ≤ bc) (h2 : M'.2.2.2.2.slots ≤ bs)
    (hk : ∀ lv' st' f' bc' bs', k lv' st' f' bc' bs' → FR l D cid M X (pc + 3) lv' st' f' bc' bs') :
    W X.1 l X.2.1 M.2.2.2.2 X.2.2.1 X.2.2.2.1 X.2.2.2.2.1 X.2.2.2.2.2.1 X.2.2.2.2.2.2.1 X.2.2.2.2.2.2.2.1 H locs cells slots X.2.2.2.2.2.2.2.2.2 (F0 X.2.2.2.1 pc ls st) := by
  have hsub : ∀ q, Afs f H.size q → X.2.2.2.2.2.2.2.2.1 q := by
    rintro q (⟨c, hc⟩ | hq)
    · obtain ⟨L, hL, hP, hD⟩ := hw
      obtain ⟨i, hi⟩ := wl_get (cid := cid) hL hc
      exact hD.2 i _ hi
    · exact hX.2.2.2.2.2.2.1 q (Nat.le_trans hS.1 hq)
  intro T hT XX
  obtain ⟨v, st₀, t, T', L', h0, X', hL', e1, e2, ⟨⟨v', f', hv', hp, hwl, hK'⟩, hz, hkp⟩, stp⟩ := hr T hT XX
  cases hv'
  rw [h0] at hz hkp
  obtain ⟨t2, a1, b1⟩ := hk _ _ _ _ _ hp T'.heap (locs ++ L') (cells + M'.2.2.2.2.cells) (slots + M'.2.2.2.2.slots) ls hlv (by rw [e1]; exact hwl.weaken (fun q _ ha => hsub q ha))
    ⟨Nat.le_trans hS.1 (by rw [e1]; exact hz), fun q q1 q2 => by rw [e1, hkp q (Nat.lt_of_lt_of_le q1 hS.1) (fun z => q2 (hsub q z))]; exact hS.2.1 q q1 q2, fun q hq => by
      rcases List.mem_append.mp hq with h | h
      · exact hS.2.2 q h
      · exact hsub _ (hL' q h)⟩ (by omega) (by omega) T' rfl X'
  exact ⟨t2, stp t2 a1, b1⟩
theorem blind {args : List Value} {f : HF} {sz : Nat} : FrameBlind (PPc D cid args f sz) := fun a U g mk q => by
  obtain ⟨q0, q1, qP, qK, qE⟩ := q
  exact ⟨q0, q1, qP, va_K.moved (u := U) (U := U.calling g mk a) (Vm.Alike.refl U.vm) qK, qE.same (U := U.calling g mk a) rfl⟩
theorem good_in {y : MethodName} {cc : ByteArray} {n : Nat} {rt : Option FieldType} (h : Cond.code y cc n rt ∈ TB) : GoodIn TB (.code y cc n rt :: TB) := fun w hw => by
  rcases List.mem_cons.mp hw with rfl | hw
  · exact ⟨h, good_of_word (List.all_eq_true.mp tb_good _ h)⟩
  · exact ⟨hw, good_of_word (List.all_eq_true.mp tb_good _ hw)⟩
theorem so_callV {M' : MT} {ci n idx N : Nat} {T : u_T} (hX : OK l D cid M X Post) (d : decode M.2.1 pc = .ok (.invokevirtual idx, 3)) (hc : Cl[ci]? = some (M'.1.cls, T, N)) (hcode : Cond.code M'.1 M'.2.1 M'.2.2.1 M'.2.2.2.1 ∈ TB) (hl : Cond.methodLink M.1.cls idx M'.1 ∈ TB) (hi : Cond.instanceMethod M'.1 ∈ TB) (hs : Cond.selects M'.1.cls M'.1 M'.1 ∈ TB) (hini : Cond.initialized M'.1.cls ∈ TB)
    (hy : plainFor M'.1 = true) (hn : n + 1 ≤ M'.2.2.1) (hd : M'.1.cls ≠ "java/lang/invoke/MethodHandle" ∧ M'.1.cls ≠ "java/lang/invoke/VarHandle" ∧ (parseMethodDescriptor M'.1.desc).map (fun d => d.parameters.length) = some n) (hR : M'.2.2.2.2.frames + 1 ≤ M.2.2.2.2.frames ∧ 8 + (M'.2.2.1 + 11) + M'.2.2.2.2.locals ≤ M.2.2.2.2.locals) : SO l D cid M X pc (o_callV l D cid M' ci n) (pc + 3) := by
  intro lv st f bc bs k h hk H locs cells slots ls hlv hw hS hce hsl
  obtain ⟨As, b, r, rfl, hn1, hcat, hr, h1, h2, fs, hf, h⟩ := h
  have hM := ctr (sz := H.size) hy (by simp only [List.length_cons]; omega) (fun v hv => by rcases List.mem_cons.mp hv with rfl | hv; exact rfl; exact hcat v hv) h
  obtain ⟨L, hL, hP, hD⟩ := hw
  obtain ⟨q0, hq⟩ := wl_get (cid := cid) hL hf
  have hsum := cat_sum r
  have cw : CallW M.2.2.2.2 X.2.2.1 X.2.2.2.2.1 M.1.cls M'.1.cls idx M'.1 M'.2.1 M'.2.2.1 M'.2.2.2.1 (.code M'.1 M'.2.1 M'.2.2.1 M'.2.2.2.1 :: TB) M'.2.2.2.2 M'.2.2.2.2.cells M'.2.2.2.2.slots n :=
    ⟨callB_of n hX.2.2.2.2.1 (good_in hcode) rfl rfl rfl (hX.2.2.2.2.1 _ hini) (hX.2.2.2.2.1 _ hl) hd hR, hX.2.2.2.2.1 _ hi, hX.2.2.2.2.1 _ hs⟩
  exact call_end (M' := M') (f := f) hX (va_runV (As := As) (b := b) (rest := r) ⟨hX.1, hX.2.1, hX.2.2.1, hX.2.2.2.1, hX.2.2.2.2.1⟩ hM cw
    ⟨blind, va_recv hX.2.2.2.2.2.1 hP hc hq, fun U hU hW => ⟨rfl, by rw [hU], by rw [hU]; exact ⟨L, hL, hP, hD.weaken (fun _ _ _ _ => trivial)⟩, va_K.moved hW.alike hX.2.2.2.2.2.1, hX.2.2.2.2.2.2.2.2.1.warm hW⟩⟩ rfl hn1 hlv.size rfl (lv_room (by omega)) d ⟨by omega, by omega⟩) hlv ⟨L, hL, hP, hD⟩ hS hce hsl h1 h2 hk
theorem so_callI {M' : MT} {n idx : Nat} (hX : OK l D cid M X Post) (d : decode M.2.1 pc = .ok (.invokespecial idx, 3)) (hcode : Cond.code M'.1 M'.2.1 M'.2.2.1 none ∈ TB) (hrt : M'.2.2.2.1 = none) (hl : Cond.methodLink M.1.cls idx M'.1 ∈ TB) (hi : Cond.instanceMethod M'.1 ∈ TB) (hini : Cond.initialized M'.1.cls ∈ TB) (hnm : M'.1.name = "<init>")
    (hy : plainFor M'.1 = true) (hn : n + 1 ≤ M'.2.2.1) (hd : M'.1.cls ≠ "java/lang/invoke/MethodHandle" ∧ M'.1.cls ≠ "java/lang/invoke/VarHandle" ∧ (parseMethodDescriptor M'.1.desc).map (fun d => d.parameters.length) = some n) (hR : M'.2.2.2.2.frames + 1 ≤ M.2.2.2.2.frames ∧ 8 + (M'.2.2.1 + 11) + M'.2.2.2.2.locals ≤ M.2.2.2.2.locals) : SO l D cid M X pc (o_callI l D cid M' n) (pc + 3) := by
  intro lv st f bc bs k h hk H locs cells slots ls hlv hw hS hce hsl
  obtain ⟨As, b, r, rfl, hn1, hcat, hr, h1, h2, h⟩ := h
  have hM := ctr (sz := H.size) hy (by simp only [List.length_cons]; omega) (fun v hv => by rcases List.mem_cons.mp hv with rfl | hv; exact rfl; exact hcat v hv) h
  rw [hrt] at hM
  obtain ⟨L, hL, hP, hD⟩ := hw
  have hsum := cat_sum r
  have cw := cwI (R := M.2.2.2.2) (own := M.1.cls) (index := idx) n hX.2.2.2.2.1 (good_in hcode) rfl rfl rfl (hX.2.2.2.2.1 _ hini) (hX.2.2.2.2.1 _ hl) (hX.2.2.2.2.1 _ hi) hnm hd hR
  exact call_end (M' := M') (f := f) hX (va_runI (As := As) (b := b) (rest := r) ⟨hX.1, hX.2.1, hX.2.2.1, hX.2.2.2.1, hX.2.2.2.2.1⟩ hM cw
    ⟨blind, fun U hU hW => ⟨rfl, by rw [hU], by rw [hU]; exact ⟨L, hL, hP, hD.weaken (fun _ _ _ _ => trivial)⟩, va_K.moved hW.alike hX.2.2.2.2.2.1, hX.2.2.2.2.2.2.2.2.1.warm hW⟩⟩ rfl hn1 hlv.size rfl (lv_room (by omega)) d ⟨by omega, by omega⟩) hlv ⟨L, hL, hP, hD⟩ hS hce hsl h1 h2 hk
theorem so_callS {M' : MT} {n idx : Nat} (hX : OK l D cid M X Post) (d : decode M.2.1 pc = .ok (.invokestatic idx, 3)) (hcode : Cond.code M'.1 M'.2.1 M'.2.2.1 M'.2.2.2.1 ∈ TB) (hl : Cond.methodLink M.1.cls idx M'.1 ∈ TB) (hst : Cond.static M'.1 ∈ TB) (hini : Cond.initialized M'.1.cls ∈ TB)
    (hy : plainFor M'.1 = true) (hn : n ≤ M'.2.2.1) (hd : M'.1.cls ≠ "java/lang/invoke/MethodHandle" ∧ M'.1.cls ≠ "java/lang/invoke/VarHandle" ∧ (parseMethodDescriptor M'.1.desc).map (fun d => d.parameters.length) = some n) (hR : M'.2.2.2.2.frames + 1 ≤ M.2.2.2.2.frames ∧ 8 + (M'.2.2.1 + 11) + M'.2.2.2.2.locals ≤ M.2.2.2.2.locals) : SO l D cid M X pc (o_callS l D cid M' n) (pc + 3) := by
  intro lv st f bc bs k h hk H locs cells slots ls hlv hw hS hce hsl
  obtain ⟨As, r, rfl, hn1, hcat, hr, h1, h2, h⟩ := h
  have hM := ctr (sz := H.size) hy (by omega) hcat h
  obtain ⟨L, hL, hP, hD⟩ := hw
  have hsum := cat_sum r
  have cw : CallB M.2.2.2.2 X.2.2.1 X.2.2.2.2.1 M.1.cls idx M'.1 M'.2.1 M'.2.2.1 M'.2.2.2.1 (.code M'.1 M'.2.1 M'.2.2.1 M'.2.2.2.1 :: TB) M'.2.2.2.2 M'.2.2.2.2.cells M'.2.2.2.2.slots n ∧ (Cond.static M'.1).before X.2.2.2.2.1 X.2.2.1 = true :=
    ⟨callB_of n hX.2.2.2.2.1 (good_in hcode) rfl rfl rfl (hX.2.2.2.2.1 _ hini) (hX.2.2.2.2.1 _ hl) hd hR, hX.2.2.2.2.1 _ hst⟩
  exact call_end (M' := M') (f := f) hX (va_runS (As := As) (rest := r) ⟨hX.1, hX.2.1, hX.2.2.1, hX.2.2.2.1, hX.2.2.2.2.1⟩ hM cw
    ⟨blind, fun U hU hW => ⟨rfl, by rw [hU], by rw [hU]; exact ⟨L, hL, hP, hD.weaken (fun _ _ _ _ => trivial)⟩, va_K.moved hW.alike hX.2.2.2.2.2.1, hX.2.2.2.2.2.2.2.2.1.warm hW⟩⟩ rfl hn1 hlv.size rfl (lv_room (by omega)) d ⟨by omega, by omega⟩) hlv ⟨L, hL, hP, hD⟩ hS hce hsl h1 h2 hk
end ENDS
end
section
theorem vst_n (r : List Value) : vst none r = r := rfl
theorem vst_s (v : Value) (r : List Value) : vst (some v) r = v :: r := rfl
section MORE
variable {l : Launch} {D : va_G} {cid : Nat → ClassId} {M : MT} {X : CT} {Post : PT} {pc : Nat}
theorem CS.mono {args : List Value} {f : HF} {P Q : PT} (h : CS l D cid M args f P) (hPQ : ∀ v f', P v f' → Q v f') : CS l D cid M args f Q := fun X hX =>
  h X ⟨hX.1, hX.2.1, hX.2.2.1, hX.2.2.2.1, hX.2.2.2.2.1, hX.2.2.2.2.2.1, hX.2.2.2.2.2.2.1, hX.2.2.2.2.2.2.2.1, hX.2.2.2.2.2.2.2.2.1, fun pc ls H locs cells slots v f' hr hp => hX.2.2.2.2.2.2.2.2.2 pc ls H locs cells slots v f' hr (hPQ v f' hp)⟩
def cok : List Value → Prop
  | [] => True
  | v :: vs => v.category = 1 ∧ cok vs
theorem cok_mem : ∀ {As : List Value}, cok As → ∀ v ∈ As, v.category = 1
  | [], _, v, hv => by cases hv
  | w :: vs, h, v, hv => by
    rcases List.mem_cons.mp hv with rfl | hv
    · exact h.1
    · exact cok_mem h.2 v hv
theorem rf_cat (r : Option Nat) : (va_rf r).category = 1 := by cases r <;> rfl
theorem rf_s (a : Nat) : va_rf (some a) = .ref a := rfl
theorem rf_n : va_rf none = .null := rfl
theorem cV {M' : MT} {ci n b bc bs : Nat} {As fs r st : List Value} {lv : LV} {f : HF} {k : KN} {P : PT} (h6 : f b = some (.inl (ci, fs))) (h : CS l D cid M' (.ref b :: As) f P) (h0 : st = As.reverse ++ .ref b :: r) (h1 : As.length = n) (h2 : cok As) (h3 : r.length ≤ 4) (h4 : M'.2.2.2.2.cells ≤ bc) (h5 : M'.2.2.2.2.slots ≤ bs)
    (hk : ∀ v f', P v f' → k lv (vst v r) f' (bc - M'.2.2.2.2.cells) (bs - M'.2.2.2.2.slots)) : o_callV l D cid M' ci n lv st f bc bs k := ⟨As, b, r, h0, h1, cok_mem h2, h3, h4, h5, fs, h6, h.mono hk⟩
theorem cI {M' : MT} {n b bc bs : Nat} {As r st : List Value} {lv : LV} {f : HF} {k : KN} {P : PT} (h : CS l D cid M' (.ref b :: As) f P) (h0 : st = As.reverse ++ .ref b :: r) (h1 : As.length = n) (h2 : cok As) (h3 : r.length ≤ 4) (h4 : M'.2.2.2.2.cells ≤ bc) (h5 : M'.2.2.2.2.slots ≤ bs)
    (hk : ∀ v f', P v f' → k lv (vst v r) f' (bc - M'.2.2.2.2.cells) (bs - M'.2.2.2.2.slots)) : o_callI l D cid M' n lv st f bc bs k := ⟨As, b, r, h0, h1, cok_mem h2, h3, h4, h5, h.mono hk⟩
theorem cS {M' : MT} {n bc bs : Nat} {As r st : List Value} {lv : LV} {f : HF} {k : KN} {P : PT} (h : CS l D cid M' As f P) (h0 : st = As.reverse ++ r) (h1 : As.length = n) (h2 : cok As) (h3 : r.length ≤ 4) (h4 : M'.2.2.2.2.cells ≤ bc) (h5 : M'.2.2.2.2.slots ≤ bs)
    (hk : ∀ v f', P v f' → k lv (vst v r) f' (bc - M'.2.2.2.2.cells) (bs - M'.2.2.2.2.slots)) : o_callS l D cid M' n lv st f bc bs k := ⟨As, r, h0, h1, cok_mem h2, h3, h4, h5, h.mono hk⟩
theorem nw_0 : ∀ (cA : ClassId) (N : Nat), vp_cell cA (N, .inl (fun _ => (0 : Int32))) = arrV cA N (fun _ => defaultValue .int) := fun _ _ => rfl
theorem nw_1 : ∀ (cA : ClassId) (N : Nat), vp_cell cA (N, .inl (fun _ => (0 : Int32))) = arrV cA N (fun _ => defaultValue .boolean) := fun _ _ => rfl
theorem cid_int (hX : OK l D cid M X Post) : X.2.2.1.vm.findClass "[I" = some (cid 0) := (hX.2.2.2.2.2.1.2 0 (cid 0, .int) rfl).2
theorem so_clone {idx : Nat} (hX : OK l D cid M X Post) (d : decode M.2.1 pc = .ok (.invokevirtual idx, 3)) (hlink : Cond.methodLink M.1.cls idx ⟨"[I", "clone", "()Ljava/lang/Object;"⟩ ∈ TB) (hsame : Cond.sameMethod "[I" "java/lang/Object" "clone" "()Ljava/lang/Object;" ∈ TB) (hnat : Cond.native ⟨"java/lang/Object", "clone", "()Ljava/lang/Object;"⟩ ∈ TB)
    (hinst : Cond.instanceMethod ⟨"java/lang/Object", "clone", "()Ljava/lang/Object;"⟩ ∈ TB) (hsel : Cond.selects "[I" ⟨"[I", "clone", "()Ljava/lang/Object;"⟩ ⟨"java/lang/Object", "clone", "()Ljava/lang/Object;"⟩ ∈ TB) (hf : 1 ≤ M.2.2.2.2.frames) (hlo : 24 ≤ M.2.2.2.2.locals) : SO l D cid M X pc o_clone (pc + 3) := by
  intro lv st f bc bs k h hk H locs cells slots ls hlv hw hS hce hsl
  obtain ⟨a, r, rfl, hr, n, g, hfa, h1, h2, h⟩ := h
  obtain ⟨L, hL, hP, hD⟩ := hw
  obtain ⟨q0, hq⟩ := wl_get (cid := cid) hL hfa
  have hsum := cat_sum r
  refine va_clone (D := D) (cl := Cl) (x := (n, .inl g)) (ty := .int) hX.1 hX.2.1 (by rw [hX.2.2.1]; exact hlv.size.symm) hX.2.2.2.1 (hX.2.2.2.2.1 _ hlink) (hX.2.2.2.2.1 _ hsame) (hX.2.2.2.2.1 _ hnat) (hX.2.2.2.2.1 _ hinst) (hX.2.2.2.2.1 _ hsel) hX.2.2.2.2.2.2.2.2.1.2.2 hX.2.2.2.2.2.1 hP hD hS hX.2.2.2.2.2.2.1 q0 0 hq rfl (cid_int hX) (fun i v hv => ?_) hf (by omega) (by omega) (by omega) d (fun q H1 hK1 hP1 hD1 hS1 => ?_)
  · rw [vp_cell_i] at hv
    have hi : i < n := by
      have h9 := (Array.getElem?_eq_some_iff.mp hv).1
      rw [arrV_size] at h9
      exact h9
    rw [arrV_read _ _ hi] at hv
    cases hv
    rfl
  · obtain ⟨hq1, hw1⟩ := wl_new (c := .inr (.inl (0, n, g))) hL hP1 hD1
    exact hk _ _ _ _ _ (h q hq1) H1 locs (cells + 1) (slots + n) ls hlv hw1 hS1 (by omega) (by omega)
theorem so_castI {idx : Nat} (hX : OK l D cid M X Post) (d : decode M.2.1 pc = .ok (.checkcast idx, 3)) (hlink : Cond.classLink M.1.cls idx "[I" ∈ TB) : SO l D cid M X pc o_castI (pc + 3) := by
  intro lv st f bc bs k h hk H locs cells slots ls hlv hw hS hce hsl
  obtain ⟨a, r, rfl, n, g, hfa, h⟩ := h
  obtain ⟨L, hL, hP, hD⟩ := hw
  obtain ⟨q0, hq⟩ := wl_get (cid := cid) hL hfa
  exact va_castA (D := D) (cl := Cl) hX.1 hX.2.1 hX.2.2.2.1 (hX.2.2.2.2.1 _ hlink) hP q0 hq (cid_int hX) d (hk _ _ _ _ _ h H locs cells slots ls hlv ⟨L, hL, hP, hD⟩ hS hce hsl)
end MORE
section SCRIPT
variable {l : Launch} {D : va_G} {cid : Nat → ClassId} {M : MT} {X : CT} {Post : PT} {pc : Nat} {b L : Nat} {xs : Nat → Int32}
def Scr (X : CT) (b L : Nat) (xs : Nat → Int32) : Prop := va_X b L xs X.2.2.1 X.2.2.1.heap ∧ b < X.2.2.1.heap.size ∧ ¬ X.2.2.2.2.2.2.2.2.1 b
def o_sld (b L : Nat) (xs : Nat → Int32) : OP := fun lv st f bc bs k => ∃ i r, st = .int i :: .ref b :: r ∧ vp_in i L ∧ k lv (.int (xs i.toNatClampNeg) :: r) f bc bs
def o_slen (b L : Nat) : OP := fun lv st f bc bs k => ∃ r, st = .ref b :: r ∧ k lv (.int (nI L) :: r) f bc bs
theorem so_sld (hX : OK l D cid M X Post) (d : decode M.2.1 pc = .ok (.iaload, 1)) (hs : Scr X b L xs) : SO l D cid M X pc (o_sld b L xs) (pc + 1) := by
  intro lv st f bc bs k h hk H locs cells slots ls hlv hw hS hce hsl
  obtain ⟨i, r, rfl, hin, h⟩ := h
  exact va_sld hX.1 hX.2.1 hs.1 hs.2.1 hs.2.2 hS hin d (hk _ _ _ _ _ h H locs cells slots ls hlv hw hS hce hsl)
theorem so_slen (hX : OK l D cid M X Post) (d : decode M.2.1 pc = .ok (.arraylength, 1)) (hs : Scr X b L xs) : SO l D cid M X pc (o_slen b L) (pc + 1) := by
  intro lv st f bc bs k h hk H locs cells slots ls hlv hw hS hce hsl
  obtain ⟨r, rfl, h⟩ := h
  exact va_slen hX.1 hX.2.1 hs.1 hs.2.1 hs.2.2 hS d (hk _ _ _ _ _ h H locs cells slots ls hlv hw hS hce hsl)
end SCRIPT
end
section
section CHAIN
variable {l : Launch} {D : va_G} {cid : Nat → ClassId} {os : List OP} {t : KN} {lv : LV} {st r : List Value} {f : HF} {bc bs : Nat}
theorem okR_r (a : Nat) : okR (.ref a) := ⟨some a, rfl⟩
theorem okR_n : okR .null := ⟨none, rfl⟩
theorem okR_v (r : Option Nat) : okR (va_rf r) := ⟨r, rfl⟩
theorem cok_0 : cok [] := trivial
theorem cok_c {v : Value} {vs : List Value} (h : v.category = 1) (h' : cok vs) : cok (v :: vs) := ⟨h, h'⟩
theorem in_n {c n : Nat} (h : c < n) (h' : c < 2 ^ 31) : vp_in (nI c) n := by
  rintro (h1 | h1)
  · exact nI_pos h' h1
  · rw [nI_clamp h'] at h1
    omega
theorem i_push {v : Value} (k : seg os t lv (v :: st) f bc bs) : seg (o_push v :: os) t lv st f bc bs := k
theorem i_iload {i : Nat} {x : Int32} (h : lget lv i = some (.int x)) (k : seg os t lv (.int x :: st) f bc bs) : seg (o_iload i :: os) t lv st f bc bs := ⟨x, h, k⟩
theorem i_aload {i : Nat} {v : Value} (h : lget lv i = some v) (k : seg os t lv (v :: st) f bc bs) (hv : okR v := by first | exact okR_r _ | exact okR_v _ | exact okR_n) : seg (o_aload i :: os) t lv st f bc bs := by
  obtain ⟨r, rfl⟩ := hv
  exact ⟨r, h, k⟩
theorem i_istore {i : Nat} {x : Int32} (k : seg os t (lset lv i (.int x)) r f bc bs) : seg (o_istore i :: os) t lv (.int x :: r) f bc bs := ⟨x, r, rfl, k⟩
theorem i_astore {i : Nat} {v : Value} (k : seg os t (lset lv i v) r f bc bs) (hv : okR v := by first | exact okR_r _ | exact okR_v _ | exact okR_n) : seg (o_astore i :: os) t lv (v :: r) f bc bs := by
  obtain ⟨q, rfl⟩ := hv
  exact ⟨q, r, rfl, k⟩
theorem i_iinc {i : Nat} {n x : Int32} (h : lget lv i = some (.int x)) (k : seg os t (lset lv i (.int (x + n))) st f bc bs) : seg (o_iinc i n :: os) t lv st f bc bs := ⟨x, h, k⟩
theorem i_bin {g : Int32 → Int32 → Int32} {x y : Int32} (k : seg os t lv (.int (g x y) :: r) f bc bs) : seg (o_bin g :: os) t lv (.int y :: .int x :: r) f bc bs := ⟨x, y, r, rfl, k⟩
theorem i_binz {g : Int32 → Int32 → Int32} {x y : Int32} (h : ¬ y = 0) (k : seg os t lv (.int (g x y) :: r) f bc bs) : seg (o_binz g :: os) t lv (.int y :: .int x :: r) f bc bs := ⟨x, y, r, rfl, h, k⟩
theorem i_dup {v : Value} (k : seg os t lv (v :: v :: r) f bc bs) (hv : v.category = 1 := by first | rfl | exact rf_cat _) : seg (o_dup :: os) t lv (v :: r) f bc bs := ⟨v, r, rfl, hv, k⟩
theorem i_dup2 {v w : Value} (k : seg os t lv (v :: w :: v :: w :: r) f bc bs) (hv : v.category = 1 := by first | rfl | exact rf_cat _) (hw : w.category = 1 := by first | rfl | exact rf_cat _) : seg (o_dup2 :: os) t lv (v :: w :: r) f bc bs := ⟨v, w, r, rfl, hv, hw, k⟩
theorem i_getf {ci j a : Nat} {fs : List Value} {v : Value} (hf : f a = some (.inl (ci, fs))) (hv : fs[j]? = some v) (k : seg os t lv (v :: r) f bc bs) : seg (o_getf ci j :: os) t lv (.ref a :: r) f bc bs := ⟨a, r, rfl, fs, hf, v, hv, k⟩
theorem i_putI {ci j a : Nat} {fs : List Value} {x : Int32} (hf : f a = some (.inl (ci, fs))) (hj : (fs[j]?).isSome = true) (k : seg os t lv r (hup f a (.inl (ci, fs.set j (.int x)))) bc bs) : seg (o_put okI ci j :: os) t lv (.int x :: .ref a :: r) f bc bs := ⟨.int x, a, r, rfl, ⟨x, rfl⟩, fs, hf, hj, k⟩
theorem i_putZ {ci j a : Nat} {fs : List Value} {x : Int32} (hf : f a = some (.inl (ci, fs))) (hj : (fs[j]?).isSome = true) (k : seg os t lv r (hup f a (.inl (ci, fs.set j (.int x)))) bc bs) (hx : x = 0 ∨ x = 1 := by first | exact Or.inl rfl | exact Or.inr rfl) : seg (o_put okZ ci j :: os) t lv (.int x :: .ref a :: r) f bc bs := by
  refine ⟨.int x, a, r, rfl, ?_, fs, hf, hj, k⟩
  rcases hx with rfl | rfl
  · exact Or.inl rfl
  · exact Or.inr rfl
theorem i_putR {ci j a : Nat} {fs : List Value} {v : Value} (hf : f a = some (.inl (ci, fs))) (hj : (fs[j]?).isSome = true) (k : seg os t lv r (hup f a (.inl (ci, fs.set j v))) bc bs) (hv : okR v := by first | exact okR_r _ | exact okR_v _ | exact okR_n) : seg (o_put okR ci j :: os) t lv (v :: .ref a :: r) f bc bs := ⟨v, a, r, rfl, hv, fs, hf, hj, k⟩
theorem i_alen {kd a n : Nat} {g : Nat → Int32} (hf : f a = some (.inr (.inl (kd, n, g)))) (k : seg os t lv (.int (nI n) :: r) f bc bs) : seg (o_alen kd :: os) t lv (.ref a :: r) f bc bs := ⟨a, r, rfl, n, g, hf, k⟩
theorem i_alenq {kd a n : Nat} {g : Nat → Option Nat} (hf : f a = some (.inr (.inr (kd, n, g)))) (k : seg os t lv (.int (nI n) :: r) f bc bs) : seg (o_alenq kd :: os) t lv (.ref a :: r) f bc bs := ⟨a, r, rfl, n, g, hf, k⟩
theorem i_ald {kd a n c : Nat} {g : Nat → Int32} {i : Int32} (hf : f a = some (.inr (.inl (kd, n, g)))) (hi : i = nI c ∧ c < n ∧ c < 2 ^ 31) (k : seg os t lv (.int (g c) :: r) f bc bs) : seg (o_ald kd :: os) t lv (.int i :: .ref a :: r) f bc bs := by
  obtain ⟨rfl, h1, h2⟩ := hi
  refine ⟨nI c, a, r, rfl, n, g, hf, in_n h1 h2, ?_⟩
  rw [nI_clamp h2]
  exact k
theorem i_ast {a n c : Nat} {g : Nat → Int32} {i x : Int32} (hf : f a = some (.inr (.inl (0, n, g)))) (hi : i = nI c ∧ c < n ∧ c < 2 ^ 31) (k : seg os t lv r (hup f a (.inr (.inl (0, n, upd g c x)))) bc bs) : seg (o_ast :: os) t lv (.int x :: .int i :: .ref a :: r) f bc bs := by
  obtain ⟨rfl, h1, h2⟩ := hi
  refine ⟨x, nI c, a, r, rfl, n, g, hf, in_n h1 h2, ?_⟩
  rw [nI_clamp h2]
  exact k
theorem i_zst {a n c : Nat} {g : Nat → Int32} {i x : Int32} (hf : f a = some (.inr (.inl (1, n, g)))) (hi : i = nI c ∧ c < n ∧ c < 2 ^ 31) (k : seg os t lv r (hup f a (.inr (.inl (1, n, upd g c x)))) bc bs) (hx : x = 0 ∨ x = 1 := by first | exact Or.inl rfl | exact Or.inr rfl | assumption) : seg (o_zst :: os) t lv (.int x :: .int i :: .ref a :: r) f bc bs := by
  obtain ⟨rfl, h1, h2⟩ := hi
  refine ⟨x, nI c, a, r, rfl, hx, n, g, hf, in_n h1 h2, ?_⟩
  rw [nI_clamp h2]
  exact k
theorem i_aldq {kd a n c : Nat} {g : Nat → Option Nat} {i : Int32} (hf : f a = some (.inr (.inr (kd, n, g)))) (hi : i = nI c ∧ c < n ∧ c < 2 ^ 31) (k : seg os t lv (va_rf (g c) :: r) f bc bs) : seg (o_aldq kd :: os) t lv (.int i :: .ref a :: r) f bc bs := by
  obtain ⟨rfl, h1, h2⟩ := hi
  refine ⟨nI c, a, r, rfl, n, g, hf, in_n h1 h2, ?_⟩
  rw [nI_clamp h2]
  exact k
theorem i_aldq' {kd a n c : Nat} {g : Nat → Option Nat} {i : Int32} {v : Value} (hf : f a = some (.inr (.inr (kd, n, g)))) (hi : (i = nI c ∧ c < n ∧ c < 2 ^ 31) ∧ va_rf (g c) = v) (k : seg os t lv (v :: r) f bc bs) : seg (o_aldq kd :: os) t lv (.int i :: .ref a :: r) f bc bs := by
  obtain ⟨h1, rfl⟩ := hi
  exact i_aldq hf h1 k
theorem i_astq {kd ci a n c : Nat} {g : Nat → Option Nat} {i : Int32} {w : Option Nat} (hw : ∀ v, w = some v → ∃ vs, f v = some (.inl (ci, vs))) (hf : f a = some (.inr (.inr (kd, n, g)))) (hi : i = nI c ∧ c < n ∧ c < 2 ^ 31) (k : seg os t lv r (hup f a (.inr (.inr (kd, n, va_up g c w)))) bc bs) : seg (o_astq kd ci :: os) t lv (va_rf w :: .int i :: .ref a :: r) f bc bs := by
  obtain ⟨rfl, h1, h2⟩ := hi
  refine ⟨w, nI c, a, r, rfl, hw, n, g, hf, in_n h1 h2, ?_⟩
  rw [nI_clamp h2]
  exact k
theorem i_astq_n {kd ci a n c : Nat} {g : Nat → Option Nat} {i : Int32} (hf : f a = some (.inr (.inr (kd, n, g)))) (hi : i = nI c ∧ c < n ∧ c < 2 ^ 31) (k : seg os t lv r (hup f a (.inr (.inr (kd, n, va_up g c none)))) bc bs) : seg (o_astq kd ci :: os) t lv (.null :: .int i :: .ref a :: r) f bc bs :=
  i_astq (w := none) (fun v h => by cases h) hf hi k
theorem i_astq_r {kd ci a b n c : Nat} {g : Nat → Option Nat} {i : Int32} {vs : List Value} (hw : f b = some (.inl (ci, vs))) (hf : f a = some (.inr (.inr (kd, n, g)))) (hi : i = nI c ∧ c < n ∧ c < 2 ^ 31) (k : seg os t lv r (hup f a (.inr (.inr (kd, n, va_up g c (some b))))) bc bs) : seg (o_astq kd ci :: os) t lv (.ref b :: .int i :: .ref a :: r) f bc bs :=
  i_astq (w := some b) (fun v h => by cases h; exact ⟨vs, hw⟩) hf hi k
theorem i_newI {kd c : Nat} {i : Int32} (hi : i = nI c ∧ c ≤ 100000) (hb : 1 ≤ bc ∧ c ≤ bs) (k : ∀ q, f q = none → seg os t lv (.ref q :: r) (hup f q (.inr (.inl (kd, c, fun _ => 0)))) (bc - 1) (bs - c)) : seg (o_newI kd :: os) t lv (.int i :: r) f bc bs := by
  obtain ⟨rfl, h1⟩ := hi
  have h2 : (nI c).toNatClampNeg = c := nI_clamp (by omega)
  refine ⟨nI c, r, rfl, nI_pos (by omega), ?_⟩
  rw [h2]
  exact ⟨h1, hb.1, hb.2, k⟩
theorem i_newQ {kd c : Nat} {i : Int32} (hi : i = nI c ∧ c ≤ 100000) (hb : 1 ≤ bc ∧ c ≤ bs) (k : ∀ q, f q = none → seg os t lv (.ref q :: r) (hup f q (.inr (.inr (kd, c, fun _ => none)))) (bc - 1) (bs - c)) : seg (o_newQ kd :: os) t lv (.int i :: r) f bc bs := by
  obtain ⟨rfl, h1⟩ := hi
  have h2 : (nI c).toNatClampNeg = c := nI_clamp (by omega)
  refine ⟨nI c, r, rfl, nI_pos (by omega), ?_⟩
  rw [h2]
  exact ⟨h1, hb.1, hb.2, k⟩
theorem i_new {ci N : Nat} {fs : List Value} (hb : 1 ≤ bc ∧ N ≤ bs) (k : ∀ q, f q = none → seg os t lv (.ref q :: st) (hup f q (.inl (ci, fs))) (bc - 1) (bs - N)) : seg (o_new ci N fs :: os) t lv st f bc bs := ⟨hb.1, hb.2, k⟩
theorem i_clone {a n : Nat} {g : Nat → Int32} (hf : f a = some (.inr (.inl (0, n, g)))) (hb : 1 ≤ bc ∧ n ≤ bs) (k : ∀ q, f q = none → seg os t lv (.ref q :: r) (hup f q (.inr (.inl (0, n, g)))) (bc - 1) (bs - n)) (hr : r.length.ble 4 = true := by rfl) : seg (o_clone :: os) t lv (.ref a :: r) f bc bs := ⟨a, r, rfl, Nat.le_of_ble_eq_true hr, n, g, hf, hb.1, hb.2, k⟩
theorem i_castI {a n : Nat} {g : Nat → Int32} (hf : f a = some (.inr (.inl (0, n, g)))) (k : seg os t lv (.ref a :: r) f bc bs) : seg (o_castI :: os) t lv (.ref a :: r) f bc bs := ⟨a, r, rfl, n, g, hf, k⟩
theorem i_obj {a : Nat} (k : seg os t lv r f bc bs) (hr : r.length.ble 4 = true := by rfl) : seg (o_obj :: os) t lv (.ref a :: r) f bc bs := ⟨a, r, rfl, Nat.le_of_ble_eq_true hr, k⟩
theorem j_callV {M' : MT} {ci n b : Nat} {As fs : List Value} {P : PT} (h6 : f b = some (.inl (ci, fs))) (h : CS l D cid M' (.ref b :: As) f P) (h0 : st = As.reverse ++ .ref b :: r) (h1 : As.length = n)
    (hk : ∀ v f', P v f' → seg os t lv (vst v r) f' (bc - M'.2.2.2.2.cells) (bs - M'.2.2.2.2.slots)) (h2 : cok As := by repeat first | exact cok_0 | refine cok_c (by first | rfl | exact rf_cat _) ?_) (h3 : r.length.ble 4 = true := by rfl) (h4 : M'.2.2.2.2.cells ≤ bc := by first | exact Nat.zero_le _ | decide | omega) (h5 : M'.2.2.2.2.slots ≤ bs := by first | exact Nat.zero_le _ | decide | omega) : seg (o_callV l D cid M' ci n :: os) t lv st f bc bs :=
  cV h6 h h0 h1 h2 (Nat.le_of_ble_eq_true h3) h4 h5 hk
theorem j_callI {M' : MT} {n b : Nat} {As : List Value} {P : PT} (h : CS l D cid M' (.ref b :: As) f P) (h0 : st = As.reverse ++ .ref b :: r) (h1 : As.length = n)
    (hk : ∀ v f', P v f' → seg os t lv (vst v r) f' (bc - M'.2.2.2.2.cells) (bs - M'.2.2.2.2.slots)) (h2 : cok As := by repeat first | exact cok_0 | refine cok_c (by first | rfl | exact rf_cat _) ?_) (h3 : r.length.ble 4 = true := by rfl) (h4 : M'.2.2.2.2.cells ≤ bc := by first | exact Nat.zero_le _ | decide | omega) (h5 : M'.2.2.2.2.slots ≤ bs := by first | exact Nat.zero_le _ | decide | omega) : seg (o_callI l D cid M' n :: os) t lv st f bc bs :=
  cI h h0 h1 h2 (Nat.le_of_ble_eq_true h3) h4 h5 hk
theorem j_callS {M' : MT} {n : Nat} {As : List Value} {P : PT} (h : CS l D cid M' As f P) (h0 : st = As.reverse ++ r) (h1 : As.length = n)
    (hk : ∀ v f', P v f' → seg os t lv (vst v r) f' (bc - M'.2.2.2.2.cells) (bs - M'.2.2.2.2.slots)) (h2 : cok As := by repeat first | exact cok_0 | refine cok_c (by first | rfl | exact rf_cat _) ?_) (h3 : r.length.ble 4 = true := by rfl) (h4 : M'.2.2.2.2.cells ≤ bc := by first | exact Nat.zero_le _ | decide | omega) (h5 : M'.2.2.2.2.slots ≤ bs := by first | exact Nat.zero_le _ | decide | omega) : seg (o_callS l D cid M' n :: os) t lv st f bc bs :=
  cS h h0 h1 h2 (Nat.le_of_ble_eq_true h3) h4 h5 hk
theorem j_rdV {M' : MT} {ci n b : Nat} {As fs : List Value} {w : Value} (h6 : f b = some (.inl (ci, fs))) (h : CS l D cid M' (.ref b :: As) f (fun v f' => v = some w ∧ f' = f)) (h0 : st = As.reverse ++ .ref b :: r) (h1 : As.length = n)
    (hk : seg os t lv (w :: r) f (bc - M'.2.2.2.2.cells) (bs - M'.2.2.2.2.slots)) (h2 : cok As := by repeat first | exact cok_0 | refine cok_c (by first | rfl | exact rf_cat _) ?_) (h3 : r.length.ble 4 = true := by rfl) (h4 : M'.2.2.2.2.cells ≤ bc := by first | exact Nat.zero_le _ | decide | omega) (h5 : M'.2.2.2.2.slots ≤ bs := by first | exact Nat.zero_le _ | decide | omega) : seg (o_callV l D cid M' ci n :: os) t lv st f bc bs :=
  cV h6 h h0 h1 h2 (Nat.le_of_ble_eq_true h3) h4 h5 (fun v f' hv => by obtain ⟨rfl, rfl⟩ := hv; exact hk)
theorem j_rdS {M' : MT} {n : Nat} {As : List Value} {w : Value} (h : CS l D cid M' As f (fun v f' => v = some w ∧ f' = f)) (h0 : st = As.reverse ++ r) (h1 : As.length = n)
    (hk : seg os t lv (w :: r) f (bc - M'.2.2.2.2.cells) (bs - M'.2.2.2.2.slots)) (h2 : cok As := by repeat first | exact cok_0 | refine cok_c (by first | rfl | exact rf_cat _) ?_) (h3 : r.length.ble 4 = true := by rfl) (h4 : M'.2.2.2.2.cells ≤ bc := by first | exact Nat.zero_le _ | decide | omega) (h5 : M'.2.2.2.2.slots ≤ bs := by first | exact Nat.zero_le _ | decide | omega) : seg (o_callS l D cid M' n :: os) t lv st f bc bs :=
  cS h h0 h1 h2 (Nat.le_of_ble_eq_true h3) h4 h5 (fun v f' hv => by obtain ⟨rfl, rfl⟩ := hv; exact hk)
theorem j_upV {M' : MT} {ci n b : Nat} {As fs : List Value} {f1 : HF} (h6 : f b = some (.inl (ci, fs))) (h : CS l D cid M' (.ref b :: As) f (fun v f' => v = none ∧ f' = f1)) (h0 : st = As.reverse ++ .ref b :: r) (h1 : As.length = n)
    (hk : seg os t lv r f1 (bc - M'.2.2.2.2.cells) (bs - M'.2.2.2.2.slots)) (h2 : cok As := by repeat first | exact cok_0 | refine cok_c (by first | rfl | exact rf_cat _) ?_) (h3 : r.length.ble 4 = true := by rfl) (h4 : M'.2.2.2.2.cells ≤ bc := by first | exact Nat.zero_le _ | decide | omega) (h5 : M'.2.2.2.2.slots ≤ bs := by first | exact Nat.zero_le _ | decide | omega) : seg (o_callV l D cid M' ci n :: os) t lv st f bc bs :=
  cV h6 h h0 h1 h2 (Nat.le_of_ble_eq_true h3) h4 h5 (fun v f' hv => by obtain ⟨rfl, rfl⟩ := hv; exact hk)
theorem j_upI {M' : MT} {n b : Nat} {As : List Value} {f1 : HF} (h : CS l D cid M' (.ref b :: As) f (fun v f' => v = none ∧ f' = f1)) (h0 : st = As.reverse ++ .ref b :: r) (h1 : As.length = n)
    (hk : seg os t lv r f1 (bc - M'.2.2.2.2.cells) (bs - M'.2.2.2.2.slots)) (h2 : cok As := by repeat first | exact cok_0 | refine cok_c (by first | rfl | exact rf_cat _) ?_) (h3 : r.length.ble 4 = true := by rfl) (h4 : M'.2.2.2.2.cells ≤ bc := by first | exact Nat.zero_le _ | decide | omega) (h5 : M'.2.2.2.2.slots ≤ bs := by first | exact Nat.zero_le _ | decide | omega) : seg (o_callI l D cid M' n :: os) t lv st f bc bs :=
  cI h h0 h1 h2 (Nat.le_of_ble_eq_true h3) h4 h5 (fun v f' hv => by obtain ⟨rfl, rfl⟩ := hv; exact hk)
theorem i_end (k : t lv st f bc bs) : seg [] t lv st f bc bs := k
theorem i_cmp {c : Int32 → Int32 → Prop} {kt kf : KN} {x y : Int32} (h1 : c x y → kt lv r f bc bs) (h2 : ¬ c x y → kf lv r f bc bs) : seg [] (t_cmp c kt kf) lv (.int y :: .int x :: r) f bc bs := ⟨x, y, r, rfl, h1, h2⟩
theorem i_if {c : Int32 → Prop} {kt kf : KN} {x : Int32} (h1 : c x → kt lv r f bc bs) (h2 : ¬ c x → kf lv r f bc bs) : seg [] (t_if c kt kf) lv (.int x :: r) f bc bs := ⟨x, r, rfl, h1, h2⟩
def bI (b : Bool) : Int32 := if b = true then 1 else 0
theorem bI_t : bI true = 1 := rfl
theorem bI_f : bI false = 0 := rfl
theorem bI_01 (b : Bool) : bI b = 0 ∨ bI b = 1 := by cases b <;> simp [bI]
theorem i_ifb {kt kf : KN} {b : Bool} (h1 : b = false → kt lv r f bc bs) (h2 : b = true → kf lv r f bc bs) : seg [] (t_if (fun x => x = 0) kt kf) lv (.int (bI b) :: r) f bc bs := by
  refine ⟨_, r, rfl, fun h => ?_, fun h => ?_⟩
  · cases b with
    | false => exact h1 rfl
    | true => exact absurd h (by decide)
  · cases b with
    | false => exact absurd rfl h
    | true => exact h2 rfl
theorem i_ifbn {kt kf : KN} {b : Bool} (h1 : b = true → kt lv r f bc bs) (h2 : b = false → kf lv r f bc bs) : seg [] (t_if (fun x => ¬ x = 0) kt kf) lv (.int (bI b) :: r) f bc bs := by
  refine ⟨_, r, rfl, fun h => ?_, fun h => ?_⟩
  · cases b with
    | false => exact absurd rfl h
    | true => exact h1 rfl
  · cases b with
    | false => exact h2 rfl
    | true => exact absurd (show ¬ (bI true = 0) by decide) h
theorem i_null_v {kn kr : KN} {v : Option Nat} (h1 : v = none → kn lv r f bc bs) (h2 : ∀ a, v = some a → kr lv r f bc bs) : seg [] (t_null kn kr) lv (va_rf v :: r) f bc bs := ⟨v, r, rfl, h1, h2⟩
theorem i_null_r {kn kr : KN} {a : Nat} (h2 : kr lv r f bc bs) : seg [] (t_null kn kr) lv (.ref a :: r) f bc bs := ⟨some a, r, rfl, fun h => (by cases h), fun _ _ => h2⟩
theorem i_null_n {kn kr : KN} (h1 : kn lv r f bc bs) : seg [] (t_null kn kr) lv (.null :: r) f bc bs := ⟨none, r, rfl, fun _ => h1, fun _ h => (by cases h)⟩
theorem i_ret {P : PT} (h : P none f) : seg [] (t_ret P) lv [] f bc bs := ⟨rfl, h⟩
theorem i_iret {P : PT} {x : Int32} (h : P (some (.int x)) f) : seg [] (t_iret P) lv [.int x] f bc bs := ⟨x, rfl, h⟩
theorem i_zret {P : PT} {x : Int32} (h : P (some (.int x)) f) (hx : x = 0 ∨ x = 1 := by first | exact Or.inl rfl | exact Or.inr rfl | exact bI_01 _) : seg [] (t_zret P) lv [.int x] f bc bs := ⟨x, rfl, hx, h⟩
theorem i_aret {P : PT} {v : Value} (h : P (some v) f) (hv : okR v := by first | exact okR_r _ | exact okR_v _ | exact okR_n) : seg [] (t_aret P) lv [v] f bc bs := by
  obtain ⟨q, rfl⟩ := hv
  exact ⟨q, rfl, h⟩
theorem i_cmp_t {c : Int32 → Int32 → Prop} {kt kf : KN} {x y : Int32} (h : c x y) (h1 : kt lv r f bc bs) : seg [] (t_cmp c kt kf) lv (.int y :: .int x :: r) f bc bs := ⟨x, y, r, rfl, fun _ => h1, fun q => absurd h q⟩
theorem i_cmp_f {c : Int32 → Int32 → Prop} {kt kf : KN} {x y : Int32} (h : ¬ c x y) (h2 : kf lv r f bc bs) : seg [] (t_cmp c kt kf) lv (.int y :: .int x :: r) f bc bs := ⟨x, y, r, rfl, fun q => absurd q h, fun _ => h2⟩
theorem i_if_t {c : Int32 → Prop} {kt kf : KN} {x : Int32} (h : c x) (h1 : kt lv r f bc bs) : seg [] (t_if c kt kf) lv (.int x :: r) f bc bs := ⟨x, r, rfl, fun _ => h1, fun q => absurd h q⟩
theorem i_if_f {c : Int32 → Prop} {kt kf : KN} {x : Int32} (h : ¬ c x) (h2 : kf lv r f bc bs) : seg [] (t_if c kt kf) lv (.int x :: r) f bc bs := ⟨x, r, rfl, fun q => absurd q h, fun _ => h2⟩
theorem up_to {P : Nat → Prop} {N : Nat} (h1 : P N) (h2 : ∀ t, t < N → P (t + 1) → P t) : ∀ t, t ≤ N → P t := by
  have h : ∀ d t, t + d = N → P t := by
    intro d
    induction d with
    | zero => intro t ht; rw [show t = N by omega]; exact h1
    | succ d ih => intro t ht; exact h2 t (by omega) (ih (t + 1) (by omega))
  intro t ht
  exact h (N - t) t (by omega)
theorem va_s {α : Type} (g : Nat → α) (k : Nat) (v : α) : va_up g k v k = v := by simp [va_up]
theorem va_n {α : Type} {g : Nat → α} {k j : Nat} {v : α} (h : j ≠ k) : va_up g k v j = g j := by simp [va_up, h]
theorem va_va {α : Type} (g : Nat → α) (k : Nat) (v w : α) : va_up (va_up g k v) k w = va_up g k w := by
  funext j
  simp only [va_up]
  split <;> rfl
theorem va_id {α : Type} {g : Nat → α} {k : Nat} {v : α} (h : g k = v) : va_up g k v = g := by
  funext j
  by_cases e : j = k
  · subst e
    rw [va_s, h]
  · rw [va_n e]
theorem upd_s (g : Nat → Int32) (k : Nat) (v : Int32) : upd g k v k = v := by simp [upd]
theorem upd_n {g : Nat → Int32} {k j : Nat} {v : Int32} (h : j ≠ k) : upd g k v j = g j := by simp [upd, h]
end CHAIN
section CELLS
def AI (K : Nat) (A : Nat → Nat) : Prop := ∀ j k, j < K → k < K → A j = A k → j = k
def isA (K : Nat) (A : Nat → Nat) (a : Nat) : Prop := ∃ k, k < K ∧ a = A k
noncomputable def hC (K : Nat) (A : Nat → Nat) (f : HF) (cs : Nat → PC) : HF := fun a => @dite (Option PC) (isA K A a) (Classical.propDecidable _) (fun h => some (cs (Classical.choose h))) (fun _ => f a)
variable {K : Nat} {A : Nat → Nat} {f : HF} {cs : Nat → PC}
theorem hC_at (hA : AI K A) {k : Nat} (hk : k < K) : hC K A f cs (A k) = some (cs k) := by
  have h : isA K A (A k) := ⟨k, hk, rfl⟩
  have h2 := Classical.choose_spec h
  have h3 : Classical.choose h = k := (hA _ _ hk h2.1 h2.2).symm
  simp only [hC, dif_pos h, h3]
theorem hC_no {a : Nat} (h : ¬ isA K A a) : hC K A f cs a = f a := by simp only [hC, dif_neg h]
theorem hC_up (hA : AI K A) {k : Nat} (hk : k < K) (c : PC) : hup (hC K A f cs) (A k) c = hC K A f (va_up cs k c) := by
  funext a
  by_cases h : isA K A a
  · obtain ⟨j, hj, rfl⟩ := h
    rw [hC_at hA hj]
    by_cases e : j = k
    · subst e
      rw [hup_s, va_s]
    · rw [hup_n (fun q => e (hA _ _ hj hk q)), hC_at hA hj, va_n e]
  · have ha : a ≠ A k := fun q => h ⟨k, hk, q⟩
    rw [hup_n ha, hC_no h, hC_no h]
theorem hC_none {q : Nat} (h : hC K A f cs q = none) : ¬ isA K A q ∧ f q = none := by
  by_cases ha : isA K A q
  · simp only [hC, dif_pos ha] at h
    cases h
  · rw [hC_no ha] at h
    exact ⟨ha, h⟩
theorem hC_new {q : Nat} (h : hC K A f cs q = none) (c : PC) : hup (hC K A f cs) q c = hC K A (hup f q c) cs := by
  obtain ⟨h1, h2⟩ := hC_none h
  funext a
  by_cases ha : isA K A a
  · have hn : a ≠ q := fun e => h1 (e ▸ ha)
    rw [hup_n hn]
    simp only [hC, dif_pos ha]
  · rw [hC_no ha]
    by_cases e : a = q
    · subst e
      rw [hup_s, hup_s]
    · rw [hup_n e, hup_n e, hC_no ha]
theorem hC_own {q : Nat} (h : ¬ isA K A q) (c c' : PC) : hup (hC K A (hup f q c) cs) q c' = hC K A (hup f q c') cs := by
  funext a
  by_cases e : a = q
  · subst e
    rw [hup_s, hC_no h, hup_s]
  · rw [hup_n e]
    by_cases ha : isA K A a
    · simp only [hC, dif_pos ha]
    · rw [hC_no ha, hC_no ha, hup_n e, hup_n e]
variable {l : Launch} {D : va_G} {cid : Nat → ClassId} {os : List OP} {t : KN} {lv : LV} {st r : List Value} {bc bs : Nat}
theorem c_getf {ci j k : Nat} {fs : List Value} {v : Value} (hA : AI K A) (hk : k < K) (hc : cs k = .inl (ci, fs)) (hv : fs[j]? = some v) (kk : seg os t lv (v :: r) (hC K A f cs) bc bs) : seg (o_getf ci j :: os) t lv (.ref (A k) :: r) (hC K A f cs) bc bs := i_getf ((hC_at hA hk).trans (congrArg some hc)) hv kk
theorem c_cell {k : Nat} {c : PC} (hA : AI K A) (hk : k < K) (hc : cs k = c) : hC K A f cs (A k) = some c := (hC_at hA hk).trans (congrArg some hc)
theorem c_putI {ci j k : Nat} {fs : List Value} {x : Int32} (hA : AI K A) (hk : k < K) (hc : cs k = .inl (ci, fs)) (hj : (fs[j]?).isSome = true) (kk : seg os t lv r (hC K A f (va_up cs k (.inl (ci, fs.set j (.int x))))) bc bs) : seg (o_put okI ci j :: os) t lv (.int x :: .ref (A k) :: r) (hC K A f cs) bc bs :=
  i_putI (c_cell hA hk hc) hj (by rw [hC_up hA hk]; exact kk)
theorem c_putZ {ci j k : Nat} {fs : List Value} {x : Int32} (hA : AI K A) (hk : k < K) (hc : cs k = .inl (ci, fs)) (hj : (fs[j]?).isSome = true) (kk : seg os t lv r (hC K A f (va_up cs k (.inl (ci, fs.set j (.int x))))) bc bs) (hx : x = 0 ∨ x = 1 := by first | exact Or.inl rfl | exact Or.inr rfl) : seg (o_put okZ ci j :: os) t lv (.int x :: .ref (A k) :: r) (hC K A f cs) bc bs :=
  i_putZ (c_cell hA hk hc) hj (by rw [hC_up hA hk]; exact kk) hx
theorem c_putR {ci j k : Nat} {fs : List Value} {v : Value} (hA : AI K A) (hk : k < K) (hc : cs k = .inl (ci, fs)) (hj : (fs[j]?).isSome = true) (kk : seg os t lv r (hC K A f (va_up cs k (.inl (ci, fs.set j v)))) bc bs) (hv : okR v := by first | exact okR_r _ | exact okR_v _ | exact okR_n) : seg (o_put okR ci j :: os) t lv (v :: .ref (A k) :: r) (hC K A f cs) bc bs :=
  i_putR (c_cell hA hk hc) hj (by rw [hC_up hA hk]; exact kk) hv
theorem c_ast {k n c : Nat} {g : Nat → Int32} {i x : Int32} (hA : AI K A) (hk : k < K) (hc : cs k = .inr (.inl (0, n, g))) (hi : i = nI c ∧ c < n ∧ c < 2 ^ 31) (kk : seg os t lv r (hC K A f (va_up cs k (.inr (.inl (0, n, upd g c x))))) bc bs) : seg (o_ast :: os) t lv (.int x :: .int i :: .ref (A k) :: r) (hC K A f cs) bc bs :=
  i_ast (c_cell hA hk hc) hi (by rw [hC_up hA hk]; exact kk)
theorem c_astq_n {kd ci k n c : Nat} {g : Nat → Option Nat} {i : Int32} (hA : AI K A) (hk : k < K) (hc : cs k = .inr (.inr (kd, n, g))) (hi : i = nI c ∧ c < n ∧ c < 2 ^ 31) (kk : seg os t lv r (hC K A f (va_up cs k (.inr (.inr (kd, n, va_up g c none))))) bc bs) : seg (o_astq kd ci :: os) t lv (.null :: .int i :: .ref (A k) :: r) (hC K A f cs) bc bs :=
  i_astq_n (c_cell hA hk hc) hi (by rw [hC_up hA hk]; exact kk)
theorem c_astq_r {kd ci k n c b : Nat} {g : Nat → Option Nat} {i : Int32} {vs : List Value} (hw : hC K A f cs b = some (.inl (ci, vs))) (hA : AI K A) (hk : k < K) (hc : cs k = .inr (.inr (kd, n, g))) (hi : i = nI c ∧ c < n ∧ c < 2 ^ 31) (kk : seg os t lv r (hC K A f (va_up cs k (.inr (.inr (kd, n, va_up g c (some b)))))) bc bs) : seg (o_astq kd ci :: os) t lv (.ref b :: .int i :: .ref (A k) :: r) (hC K A f cs) bc bs :=
  i_astq_r hw (c_cell hA hk hc) hi (by rw [hC_up hA hk]; exact kk)
end CELLS
end
section
abbrev Ent : Type := Int32 × Int32 × Int32
def tot : List Ent → Int32
  | [] => 0
  | e :: es => 3 * tot es + e.2.2 + e.1
def hd : List Ent → Ent
  | [] => (0, 0, 0)
  | e :: _ => e
def mx (x y : Int32) : Int32 := if x < y then y else x
def mn (x y : Int32) : Int32 := if y < x then y else x
def fmod (x y : Int32) : Int32 := if x ^^^ y < 0 ∧ ¬ x - x / y * y = 0 then x - x / y * y + y else x - x / y * y
def fse : List Ent → Int32 → List Ent
  | [], _ => []
  | e :: es, c => if c < nI (es.length + 1) then fse es c else e :: es
def gno : List Ent → Int32 → Int32 → Int32
  | [], w, g => if (0 : Int32) = w then mx g 0 else g
  | e :: es, w, g => gno es w (if e.1 = w then mx g e.2.1 else g)
def fnd : List Ent → Int32 → Int32 → Option (List Ent)
  | [], c, n => if (0 : Int32) = c ∧ (0 : Int32) = n then some [] else none
  | e :: es, c, n => if e.1 = c ∧ e.2.1 = n then some (e :: es) else fnd es c n
abbrev Msg : Type := Int32 × Nat × Nat × Int32 × Int32 × (Nat → Int32) × List Ent × Int32
abbrev mK (m : Msg) : Int32 := m.1
abbrev mS (m : Msg) : Nat := m.2.1
abbrev mD (m : Msg) : Nat := m.2.2.1
abbrev mV (m : Msg) : Int32 := m.2.2.2.1
abbrev mL (m : Msg) : Int32 := m.2.2.2.2.1
abbrev mX (m : Msg) : Nat → Int32 := m.2.2.2.2.2.1
abbrev mG (m : Msg) : List Ent := m.2.2.2.2.2.2.1
abbrev mC (m : Msg) : Int32 := m.2.2.2.2.2.2.2
abbrev KM : Type := Nat → Option Msg
abbrev RS : Type := Int32 × Int32 × Int32 × List Ent × Int32 × (Nat → Int32) × (Nat → Int32) × Int32 × KM × KM × KM × Int32
abbrev rS (R : RS) : Int32 := R.1
abbrev rV (R : RS) : Int32 := R.2.1
abbrev rL (R : RS) : Int32 := R.2.2.1
abbrev rG (R : RS) : List Ent := R.2.2.2.1
abbrev rC (R : RS) : Int32 := R.2.2.2.2.1
abbrev rX (R : RS) : Nat → Int32 := R.2.2.2.2.2.1
abbrev rA (R : RS) : Nat → Int32 := R.2.2.2.2.2.2.1
abbrev rP (R : RS) : Int32 := R.2.2.2.2.2.2.2.1
abbrev rO (R : RS) : KM := R.2.2.2.2.2.2.2.2.1
abbrev rE (R : RS) : KM := R.2.2.2.2.2.2.2.2.2.1
abbrev rR (R : RS) : KM := R.2.2.2.2.2.2.2.2.2.2.1
abbrev rN (R : RS) : Int32 := R.2.2.2.2.2.2.2.2.2.2.2
def mkM (R : RS) (i : Nat) (kind : Int32) (d : Nat) : Msg := (kind, i, d, rV R, rL R, rX R, rG R, rC R)
def cnt (k : KM) : Nat → Int32
  | 0 => 0
  | t + 1 => if (k t).isSome then cnt k t + 1 else cnt k t
def gvw (k : KM) : Nat → Int32
  | 0 => 0
  | t + 1 => match k t with
    | none => gvw k t
    | some m => mx (gvw k t) (mV m)
def rse (v w : Nat → Int32) : Nat → Int32 := fun t => mx (v t) (w t)
def drp (k : KM) (v : Nat → Int32) : KM := fun t => match k t with
  | none => none
  | some m => if mX m t < v t then none else some m
def cak (a : Nat → Int32) (e : Int32) : Nat → Int32
  | 0 => 0
  | t + 1 => if e ≤ a t then cak a e t + 1 else cak a e t
def akb (a : Nat → Int32) (N : Nat) (enough c0 : Int32) : Nat → Int32
  | 0 => c0
  | t + 1 => if akb a N enough c0 t < a t ∧ enough ≤ cak a (a t) N then a t else akb a N enough c0 t
def bst (k : KM) (b0 : List Ent × Int32 × Int32) : Nat → List Ent × Int32 × Int32
  | 0 => b0
  | t + 1 => match k t with
    | none => bst k b0 t
    | some m => if (bst k b0 t).2.1 < mL m ∨ (mL m = (bst k b0 t).2.1 ∧ nI (bst k b0 t).1.length < nI (mG m).length)
      then (mG m, mL m, mx (bst k b0 t).2.2 (mC m))
      else ((bst k b0 t).1, (bst k b0 t).2.1, mx (bst k b0 t).2.2 (mC m))
def noK : KM := fun _ => none
def r_fresh (R : RS) : RS := (rS R, 0, 0, [], 0, fun _ => 0, fun _ => 0, 0, noK, noK, noK, rN R)
def r_normal (R : RS) (v : Int32) (lg : List Ent) (c : Int32) : RS := (0, v, v, lg, c, rX R, rA R, rP R, noK, noK, noK, rN R)
def r_best (R : RS) (N : Nat) : List Ent × Int32 × Int32 := bst (rE R) (rG R, rL R, rC R) N
def r_primary (R : RS) (N : Nat) : RS := (0, rV R, rV R, (r_best R N).1, (r_best R N).2.2, rX R, fun _ => 0, rP R, noK, noK, noK, rN R)
def r_raise (R : RS) (w : Nat → Int32) : RS := (rS R, rV R, rL R, rG R, rC R, rse (rX R) w, rA R, rP R, drp (rO R) (rse (rX R) w), drp (rE R) (rse (rX R) w), drp (rR R) (rse (rX R) w), rN R)
abbrev GS : Type := Nat × Int32 × (Nat → Msg) × (Nat → Int32) × (Nat → Int32) × (Nat → RS)
abbrev gT (S : GS) : Nat := S.1
abbrev gL (S : GS) : Int32 := S.2.1
abbrev gM (S : GS) : Nat → Msg := S.2.2.1
abbrev gN (S : GS) : Nat → Int32 := S.2.2.2.1
abbrev gA (S : GS) : Nat → Int32 := S.2.2.2.2.1
abbrev gR (S : GS) : Nat → RS := S.2.2.2.2.2
def g_rep (S : GS) (i : Nat) (R : RS) : GS := (gT S, gL S, gM S, gN S, gA S, va_up (gR S) i R)
def g_send (S : GS) (i : Nat) (kind : Int32) (d : Nat) : GS := (gT S + 1, gL S, va_up (gM S) (gT S) (mkM (gR S i) i kind d), gN S, gA S, gR S)
def g_all (S : GS) (i : Nat) (kind : Int32) : Nat → GS
  | 0 => S
  | t + 1 => if t = i then g_all S i kind t else g_send (g_all S i kind t) i kind t
def g_ans (S : GS) (es : List Ent) : GS :=
  if gN S (hd es).1.toNatClampNeg ≤ (hd es).2.1 then (gT S, gL S, gM S, va_up (gN S) (hd es).1.toNatClampNeg (hd es).2.1, va_up (gA S) (hd es).1.toNatClampNeg (tot es), gR S) else S
def g_anss (es : List Ent) : Nat → Int32 → GS → GS
  | 0, _, S => S
  | n + 1, c, S => g_anss es n (c + 1) (g_ans S (fse es c))
def prim (N : Nat) (v : Int32) : Nat := (fmod v (nI N)).toNatClampNeg
abbrev leads (N : Nat) (R : RS) (i : Nat) : Prop := rS R = 0 ∧ fmod (rV R) (nI N) = nI i
def g_reply (S : GS) (i : Nat) (m : Msg) (kind : Int32) : GS := if rS (gR S i) = 0 then g_send S i kind (mS m) else S
def r_put (R : RS) (m : Msg) : RS := if nI (mG m).length = nI (rG R).length + 1 then (rS R, rV R, rL R, hd (mG m) :: rG R, R.2.2.2.2) else R
def r_com (R : RS) (c : Int32) : RS := (rS R, rV R, rL R, rG R, c, R.2.2.2.2.2)
def g_prep (S : GS) (i : Nat) (m : Msg) : GS :=
  if mV m < rV (gR S i) then S
  else if ¬ (mV m = rV (gR S i) ∧ rS (gR S i) = 0) ∨ nI (rG (gR S i)).length + 1 < nI (mG m).length then g_send S i 3 (mS m)
  else g_send (g_rep S i (r_com (r_put (gR S i) m) (mx (rC (gR S i)) (mn (mC m) (nI (rG (r_put (gR S i) m)).length))))) i 2 (mS m)
def r_ack (R : RS) (m : Msg) : RS := (rS R, rV R, rL R, rG R, rC R, rX R, va_up (rA R) (mS m) (mx (rA R (mS m)) (nI (mG m).length)), R.2.2.2.2.2.2.2)
def g_ok (N : Nat) (S : GS) (i : Nat) (m : Msg) : GS :=
  if ¬ leads N (gR S i) i ∨ ¬ mV m = rV (gR S i) then S
  else g_anss (rG (gR S i)) ((mn (akb (rA (r_ack (gR S i) m)) N (nI (N / 2)) (rC (gR S i)) N) (nI (rG (gR S i)).length)).toInt - (rC (gR S i)).toInt).toNat (rC (gR S i) + 1)
    (g_rep S i (r_com (r_ack (gR S i) m) (akb (rA (r_ack (gR S i) m)) N (nI (N / 2)) (rC (gR S i)) N)))
def g_state (N : Nat) (S : GS) (i : Nat) (m : Msg) : GS :=
  if fmod (mV m) (nI N) = nI i then S
  else if rV (gR S i) < mV m ∨ (mV m = rV (gR S i) ∧ (rS (gR S i) = 1 ∨ nI (rG (gR S i)).length < nI (mG m).length)) then
    g_send (g_rep S i (r_normal (gR S i) (mV m) (mG m) (mx (rC (gR S i)) (mC m)))) i 2 (prim N (mV m))
  else S
def r_start (R : RS) (v : Int32) : RS := (1, v, rL R, rG R, rC R, rX R, rA R, 0, noK, noK, noK, rN R)
def g_start (N : Nat) (S : GS) (i : Nat) (v : Int32) : GS := g_all (g_rep S i (r_start (gR S i) v)) i 5 N
def g_join (N : Nat) (S : GS) (i : Nat) (m : Msg) : GS := if rV (gR S i) < mV m then g_start N S i (mV m) else S
abbrev joined (S : GS) (i : Nat) (m : Msg) : Prop := mV m = rV (gR S i) ∧ rS (gR S i) = 1
def r_vote (R : RS) (m : Msg) : RS := (rS R, rV R, rL R, rG R, rC R, rX R, rA R, rP R, va_up (rO R) (mS m) (some m), rE R, rR R, rN R)
def r_pap (R : RS) (m : Msg) : RS := (rS R, rV R, rL R, rG R, rC R, rX R, rA R, rP R, rO R, va_up (rE R) (mS m) (some m), rR R, rN R)
def r_resp (R : RS) (m : Msg) : RS := (rS R, rV R, rL R, rG R, rC R, rX R, rA R, rP R, rO R, rE R, va_up (rR R) (mS m) (some m), rN R)
def r_sent (R : RS) : RS := (rS R, rV R, rL R, rG R, rC R, rX R, rA R, 1, rO R, rE R, rR R, rN R)
def g_vote (N : Nat) (S : GS) (i : Nat) (m : Msg) : GS :=
  if ¬ nI i = fmod (rV (gR S i)) (nI N) ∧ rP (gR S i) = 0 ∧ nI (N / 2) ≤ cnt (rO (r_vote (gR S i) m)) N then
    g_rep (g_send (g_rep S i (r_vote (gR S i) m)) i 6 (prim N (rV (gR S i)))) i (r_sent (r_vote (gR S i) m))
  else g_rep S i (r_vote (gR S i) m)
def g_paper (N : Nat) (S : GS) (i : Nat) (m : Msg) : GS :=
  if nI (N / 2) ≤ cnt (rE (r_pap (gR S i) m)) N then g_all (g_rep S i (r_primary (r_pap (gR S i) m) N)) i 4 N else g_rep S i (r_pap (gR S i) m)
def r_reco (N : Nat) (R : RS) : RS :=
  if cnt (rR R) N ≤ nI (N / 2) then R
  else match rR R (prim N (gvw (rR R) N)) with
    | none => R
    | some L => if mV L = gvw (rR R) N then r_normal R (gvw (rR R) N) (mG L) (mC L) else R
abbrev hears (R : RS) (m : Msg) : Prop := ¬ rS R = 3 ∧ (rS R = 2 ↔ mK m = 8)
abbrev outdated (R : RS) (m : Msg) (i : Nat) : Prop := mX m (mS m) < rX R (mS m) ∨ (mK m = 8 ∧ ¬ mX m i = rX R i)
def g_kind (N : Nat) (S : GS) (i : Nat) (m : Msg) : GS :=
  if mK m = 1 then g_prep S i m
  else if mK m = 2 then g_ok N S i m
  else if mK m = 3 then g_reply S i m 4
  else if mK m = 4 then g_state N S i m
  else if mK m = 5 then (if mV m = rV (gR (g_join N S i m) i) ∧ rS (gR (g_join N S i m) i) = 1 then g_vote N (g_join N S i m) i m else g_join N S i m)
  else if mK m = 6 then (if mV m = rV (gR (g_join N S i m) i) ∧ rS (gR (g_join N S i m) i) = 1 then g_paper N (g_join N S i m) i m else g_join N S i m)
  else if mK m = 7 then g_reply S i m 8
  else if mK m = 8 then g_rep S i (r_reco N (r_resp (gR S i) m))
  else S
def g_recv (N : Nat) (S : GS) (m : Msg) : Int32 × GS :=
  if ¬ (¬ rS (gR S (mD m)) = 3 ∧ (rS (gR S (mD m)) = 2 ↔ mK m = 8)) then (0, S)
  else if mX m (mS m) < rX (gR S (mD m)) (mS m) ∨ (mK m = 8 ∧ ¬ mX m (mD m) = rX (gR S (mD m)) (mD m)) then (1, S)
  else (2, g_kind N (g_rep S (mD m) (r_raise (gR S (mD m)) (mX m))) (mD m) m)
section FMOD
variable {N : Nat}
theorem nN0 (hN : N = 3 ∨ N = 5) : ¬ nI N = 0 := by
  rcases hN with rfl | rfl <;> decide
theorem xr_n {a b : Nat} (ha : a < 2 ^ 31) (hb : b < 2 ^ 31) : ¬ (nI a ^^^ nI b < 0) := by
  have hm : ∀ c : Nat, c < 2 ^ 31 → (nI c).toBitVec.msb = false := fun c hc => by
    rw [BitVec.msb_eq_toInt]
    have h := nI_toInt hc
    exact decide_eq_false (by show ¬ (nI c).toInt < 0; omega)
  intro h
  rw [Int32.lt_iff_toInt_lt, show (0 : Int32).toInt = 0 from by decide] at h
  have h1 : (nI a ^^^ nI b).toBitVec.msb = true := by
    rw [BitVec.msb_eq_toInt]
    exact decide_eq_true h
  rw [Int32.toBitVec_xor, BitVec.msb_xor, hm a ha, hm b hb] at h1
  cases h1
theorem fm_64 {T : Nat} (hT : T < 2 ^ 31) : fmod (nI T) 64 = nI (T % 64) := by
  show fmod (nI T) (nI 64) = _
  rw [fmod, pk_rem hT (by decide) (by decide), if_neg (fun q => xr_n hT (by decide) q.1)]
theorem fm_N {T : Nat} (hT : T < 2 ^ 31) (hN : N = 3 ∨ N = 5) : fmod (nI T) (nI N) = nI (T % N) := by
  rcases hN with rfl | rfl
  · rw [fmod, pk_rem hT (by decide) (by decide), if_neg (fun q => xr_n hT (by decide) q.1)]
  · rw [fmod, pk_rem hT (by decide) (by decide), if_neg (fun q => xr_n hT (by decide) q.1)]
end FMOD
end
section
theorem hup_a (f : HF) (a : Nat) (c : PC) (b : Nat) : hup f a c b = if b = a then some c else f b := rfl
theorem hup_hup (f : HF) (a : Nat) (c c' : PC) : hup (hup f a c) a c' = hup f a c' := by
  funext b
  simp only [hup_a]
  split <;> rfl
def Ext (f f' : HF) : Prop := ∀ a c, f a = some c → f' a = some c
theorem ext_r (f : HF) : Ext f f := fun _ _ h => h
theorem Ext.trans {f g h : HF} (h1 : Ext f g) (h2 : Ext g h) : Ext f h := fun a c q => h2 a c (h1 a c q)
theorem Ext.new {f : HF} {q : Nat} {c : PC} (hq : f q = none) : Ext f (hup f q c) := fun a c' h => by
  have : a ≠ q := fun e => by rw [e, hq] at h; cases h
  rw [hup_n this]
  exact h
def b24 (x : Int32) : Prop := ∃ c : Nat, c ≤ 24 ∧ x = nI c
theorem b24_0 : b24 0 := ⟨0, by omega, rfl⟩
theorem b24_mx {x y : Int32} (hx : b24 x) (hy : b24 y) : b24 (mx x y) := by
  unfold mx
  split
  · exact hy
  · exact hx
theorem b24_mn {x y : Int32} (hx : b24 x) (hy : b24 y) : b24 (mn x y) := by
  unfold mn
  split
  · exact hy
  · exact hx
def LogR (Z : Nat → Prop) (f : HF) : List Ent → Nat → Prop
  | [], a => ¬ Z a ∧ f a = some (.inl (0, [.null, .int 0, .int 0, .int 0, .int 0, .int 0]))
  | e :: es, a => ¬ Z a ∧ es.length < 24 ∧ (∃ c : Nat, c < 4 ∧ e.1 = nI c) ∧ ∃ b, f a = some (.inl (0, [.ref b, .int (nI (es.length + 1)), .int e.1, .int e.2.1, .int e.2.2, .int (tot (e :: es))])) ∧ LogR Z f es b
theorem LogR.fm {Z : Nat → Prop} {f f' : HF} (hF : ∀ a c, ¬ Z a → f a = some c → f' a = some c) : ∀ {es : List Ent} {a : Nat}, LogR Z f es a → LogR Z f' es a
  | [], _, h => ⟨h.1, hF _ _ h.1 h.2⟩
  | _ :: _, _, ⟨hz, hl, hc, b, h1, h2⟩ => ⟨hz, hl, hc, b, hF _ _ hz h1, LogR.fm hF h2⟩
theorem LogR.len {Z : Nat → Prop} {f : HF} {es : List Ent} {a : Nat} (h : LogR Z f es a) : es.length ≤ 24 := by
  cases es with
  | nil => exact Nat.zero_le _
  | cons e es => exact h.2.1
theorem LogR.cl {Z : Nat → Prop} {f : HF} {es : List Ent} {a : Nat} (h : LogR Z f es a) : ∃ c : Nat, c < 4 ∧ (hd es).1 = nI c := by
  cases es with
  | nil => exact ⟨0, by omega, rfl⟩
  | cons e es => exact h.2.2.1
theorem LogR.nz {Z : Nat → Prop} {f : HF} {es : List Ent} {a : Nat} (h : LogR Z f es a) : ¬ Z a := by
  cases es with
  | nil => exact h.1
  | cons e es => exact h.1
theorem LogR.cell {Z : Nat → Prop} {f : HF} {es : List Ent} {a : Nat} (h : LogR Z f es a) : ∃ b, f a = some (.inl (0, [va_rf b, .int (nI es.length), .int (hd es).1, .int (hd es).2.1, .int (hd es).2.2, .int (tot es)])) := by
  cases es with
  | nil => exact ⟨none, h.2⟩
  | cons e es =>
    obtain ⟨-, -, -, b, h1, -⟩ := h
    exact ⟨some b, h1⟩
def VecR (Z : Nat → Prop) (f : HF) (N a : Nat) (v : Nat → Int32) : Prop := ¬ Z a ∧ ∃ g, f a = some (.inr (.inl (0, N, g))) ∧ ∀ t, t < N → g t = v t
theorem VecR.fm {Z : Nat → Prop} {f f' : HF} {N a : Nat} {v : Nat → Int32} (hF : ∀ a c, ¬ Z a → f a = some c → f' a = some c) (h : VecR Z f N a v) : VecR Z f' N a v := by
  obtain ⟨hz, g, h1, h2⟩ := h
  exact ⟨hz, g, hF _ _ hz h1, h2⟩
def MsgR (Z : Nat → Prop) (f : HF) (N a : Nat) (m : Msg) : Prop := ¬ Z a ∧ ∃ va la, f a = some (.inl (1, [.int (mK m), .int (nI (mS m)), .int (nI (mD m)), .int (mV m), .int (mL m), .ref va, .ref la, .int (mC m)])) ∧
  VecR Z f N va (mX m) ∧ LogR Z f (mG m) la ∧ mS m < N ∧ mD m < N ∧ b24 (mC m)
theorem MsgR.fm {Z : Nat → Prop} {f f' : HF} {N a : Nat} {m : Msg} (hF : ∀ a c, ¬ Z a → f a = some c → f' a = some c) (h : MsgR Z f N a m) : MsgR Z f' N a m := by
  obtain ⟨hz, va, la, h1, h2, h3, h4⟩ := h
  exact ⟨hz, va, la, hF _ _ hz h1, h2.fm hF, h3.fm hF, h4⟩
def OptR (Z : Nat → Prop) (f : HF) (N : Nat) : Option Nat → Option Msg → Prop
  | none, none => True
  | some q, some m => MsgR Z f N q m
  | none, some _ => False
  | some _, none => False
theorem OptR.fm {Z : Nat → Prop} {f f' : HF} {N : Nat} (hF : ∀ a c, ¬ Z a → f a = some c → f' a = some c) : ∀ {o : Option Nat} {m : Option Msg}, OptR Z f N o m → OptR Z f' N o m
  | none, none, _ => trivial
  | some _, some _, h => MsgR.fm hF h
  | none, some _, h => h.elim
  | some _, none, h => h.elim
def KepC (Z : Nat → Prop) (f : HF) (cs : Nat → PC) (N k : Nat) (km : KM) : Prop := ∃ g, cs k = .inr (.inr (2, N, g)) ∧ ∀ t, t < N → OptR Z f N (g t) (km t)
def AckC (cs : Nat → PC) (N k : Nat) (v : Nat → Int32) : Prop := ∃ g, cs k = .inr (.inl (0, N, g)) ∧ ∀ t, t < N → g t = v t
abbrev robj (A : Nat → Nat) (i la va : Nat) (R : RS) : List Value := [.int (nI i), .int (rS R), .int (rV R), .int (rL R), .ref la, .int (rC R), .ref va, .ref (A (6 + 5 * i)), .int (rP R), .ref (A (7 + 5 * i)), .ref (A (8 + 5 * i)), .ref (A (9 + 5 * i)), .int (rN R)]
def RepC (Z : Nat → Prop) (f : HF) (A : Nat → Nat) (N : Nat) (cs : Nat → PC) (i : Nat) (R : RS) : Prop := ∃ la va, cs (5 + 5 * i) = .inl (2, robj A i la va R) ∧ LogR Z f (rG R) la ∧ VecR Z f N va (rX R) ∧ AckC cs N (6 + 5 * i) (rA R) ∧
  KepC Z f cs N (7 + 5 * i) (rO R) ∧ KepC Z f cs N (8 + 5 * i) (rE R) ∧ KepC Z f cs N (9 + 5 * i) (rR R) ∧ b24 (rC R) ∧ ∀ t, t < N → b24 (rA R t)
def W5 (i k : Nat) : Prop := k = 5 + 5 * i ∨ k = 6 + 5 * i ∨ k = 7 + 5 * i ∨ k = 8 + 5 * i ∨ k = 9 + 5 * i
theorem KepC.fm {Z : Nat → Prop} {f f' : HF} {cs cs' : Nat → PC} {N k : Nat} {km : KM} (hF : Ext f f') (hk : cs' k = cs k) (h : KepC Z f cs N k km) : KepC Z f' cs' N k km := by
  obtain ⟨g, h1, h2⟩ := h
  exact ⟨g, hk.trans h1, fun t ht => (h2 t ht).fm (fun a c _ q => hF a c q)⟩
theorem AckC.fm {cs cs' : Nat → PC} {N k : Nat} {v : Nat → Int32} (hk : cs' k = cs k) (h : AckC cs N k v) : AckC cs' N k v := by
  obtain ⟨g, h1, h2⟩ := h
  exact ⟨g, hk.trans h1, h2⟩
theorem RepC.fm {Z : Nat → Prop} {f f' : HF} {A : Nat → Nat} {N : Nat} {cs cs' : Nat → PC} {i : Nat} {R : RS} (hF : Ext f f') (hk : ∀ k, W5 i k → cs' k = cs k) (h : RepC Z f A N cs i R) : RepC Z f' A N cs' i R := by
  obtain ⟨la, va, h1, h2, h3, h4, h5, h6, h7, h8⟩ := h
  exact ⟨la, va, (hk _ (Or.inl rfl)).trans h1, h2.fm (fun a c _ q => hF a c q), h3.fm (fun a c _ q => hF a c q), h4.fm (hk _ (Or.inr (Or.inl rfl))), h5.fm hF (hk _ (Or.inr (Or.inr (Or.inl rfl)))), h6.fm hF (hk _ (Or.inr (Or.inr (Or.inr (Or.inl rfl))))), h7.fm hF (hk _ (Or.inr (Or.inr (Or.inr (Or.inr rfl))))), h8⟩
def GRc (Z : Nat → Prop) (f : HF) (A : Nat → Nat) (N : Nat) (cs : Nat → PC) (S : GS) : Prop :=
  cs 0 = .inl (3, [.int (nI N), .int (nI (N / 2)), .ref (A 1), .ref (A 2), .int (nI (gT S)), .int (gL S), .ref (A 3), .ref (A 4)]) ∧
  (∃ g, cs 1 = .inr (.inr (3, N, g)) ∧ ∀ i, i < N → g i = some (A (5 + 5 * i))) ∧
  (∃ g, cs 2 = .inr (.inr (2, 64, g)) ∧ ∀ k, k < gT S → gT S ≤ k + 64 → ∃ q, g (k % 64) = some q ∧ MsgR Z f N q (gM S k)) ∧
  AckC cs 4 3 (gN S) ∧ AckC cs 4 4 (gA S) ∧ ∀ i, i < N → RepC Z f A N cs i (gR S i)
def En (Z : Nat → Prop) (A : Nat → Nat) (N : Nat) (f : HF) : Prop := AI (5 + 5 * N) A ∧ (∀ a, isA (5 + 5 * N) A a → Z a) ∧ ∀ a, Z a → isA (5 + 5 * N) A a ∨ ¬ f a = none
theorem En.ext {Z : Nat → Prop} {A : Nat → Nat} {N : Nat} {f f' : HF} (h : En Z A N f) (hF : Ext f f') : En Z A N f' := by
  refine ⟨h.1, h.2.1, fun a ha => (h.2.2 a ha).imp_right (fun n q => n ?_)⟩
  cases e : f a with
  | none => rfl
  | some c => rw [hF a c e] at q; cases q
theorem En.im {Z : Nat → Prop} {A : Nat → Nat} {N : Nat} {f : HF} {cs : Nat → PC} (h : En Z A N f) : ∀ a c, ¬ Z a → f a = some c → hC (5 + 5 * N) A f cs a = some c := fun a c hz hc => by
  rw [hC_no (fun q => hz (h.2.1 a q))]
  exact hc
theorem En.no {Z : Nat → Prop} {A : Nat → Nat} {N : Nat} {f : HF} {cs : Nat → PC} {q : Nat} (h : En Z A N f) (hq : hC (5 + 5 * N) A f cs q = none) : ¬ Z q ∧ f q = none := by
  obtain ⟨h1, h2⟩ := hC_none hq
  exact ⟨fun hz => (h.2.2 q hz).elim h1 (fun n => n h2), h2⟩
theorem GRc.rep {Z : Nat → Prop} {f f' : HF} {A : Nat → Nat} {N i : Nat} {cs cs' : Nat → PC} {S : GS} {R : RS} (hN : N ≤ 5) (hi : i < N) (hG : GRc Z f A N cs S) (hF : Ext f f') (hk : ∀ k, ¬ W5 i k → cs' k = cs k) (hR : RepC Z f' A N cs' i R) : GRc Z f' A N cs' (g_rep S i R) := by
  obtain ⟨h0, ⟨g1, h1, h1'⟩, ⟨g2, h2, h2'⟩, h3, h4, h5⟩ := hG
  have nw : ∀ k, k < 5 → ¬ W5 i k := fun k h => by simp only [W5]; omega
  refine ⟨(hk 0 (nw 0 (by omega))).trans h0, ⟨g1, (hk 1 (nw 1 (by omega))).trans h1, h1'⟩, ⟨g2, (hk 2 (nw 2 (by omega))).trans h2, fun k hk1 hk2 => ?_⟩, h3.fm (hk 3 (nw 3 (by omega))), h4.fm (hk 4 (nw 4 (by omega))), fun j hj => ?_⟩
  · obtain ⟨q, hq, hm⟩ := h2' k hk1 hk2
    exact ⟨q, hq, hm.fm (fun a c _ q => hF a c q)⟩
  · by_cases e : j = i
    · subst e
      show RepC Z f' A N cs' j (va_up (gR S) j R j)
      rw [va_s]
      exact hR
    · show RepC Z f' A N cs' j (va_up (gR S) i R j)
      rw [va_n e]
      exact (h5 j hj).fm hF (fun k hw => hk k (by simp only [W5] at *; omega))
end
section
section PUB
variable {N i n : Nat} {S : GS} {R : RS} {m : Msg}
def r_vec (R : RS) (w : Nat → Int32) : RS := (rS R, rV R, rL R, rG R, rC R, rse (rX R) w, rA R, rP R, rO R, rE R, rR R, rN R)
theorem drp_n {km : KM} {v : Nat → Int32} {t : Nat} (h : km t = none) : drp km v t = none := by simp [drp, h]
theorem drp_s {km : KM} {v : Nat → Int32} {t : Nat} {m : Msg} (h : km t = some m) : drp km v t = if mX m t < v t then none else some m := by simp [drp, h]
def r_drop (R : RS) : RS := (rS R, rV R, rL R, rG R, rC R, rX R, rA R, rP R, drp (rO R) (rX R), drp (rE R) (rX R), drp (rR R) (rX R), rN R)
theorem bst_n {k : KM} {b0 : List Ent × Int32 × Int32} {t : Nat} (h : k t = none) : bst k b0 (t + 1) = bst k b0 t := by simp [bst, h]
theorem bst_p {k : KM} {b0 : List Ent × Int32 × Int32} {t : Nat} {m : Msg} (h : k t = some m) (hc : (bst k b0 t).2.1 < mL m ∨ (mL m = (bst k b0 t).2.1 ∧ nI (bst k b0 t).1.length < nI (mG m).length)) : bst k b0 (t + 1) = (mG m, mL m, mx (bst k b0 t).2.2 (mC m)) := by
  rw [bst, h]
  exact if_pos hc
theorem bst_m {k : KM} {b0 : List Ent × Int32 × Int32} {t : Nat} {m : Msg} (h : k t = some m) (hc : ¬ ((bst k b0 t).2.1 < mL m ∨ (mL m = (bst k b0 t).2.1 ∧ nI (bst k b0 t).1.length < nI (mG m).length))) : bst k b0 (t + 1) = ((bst k b0 t).1, (bst k b0 t).2.1, mx (bst k b0 t).2.2 (mC m)) := by
  rw [bst, h]
  exact if_neg hc
def isR (N : Nat) (x : Int32) : Bool := decide (¬ x < 0 ∧ x < nI N)
def isCl (x : Int32) : Bool := decide (¬ x < 0 ∧ x < 4)
theorem isR_t {x : Int32} (hN : N ≤ 5) (h : isR N x = true) : ∃ i, i < N ∧ x = nI i := by
  have h' := of_decide_eq_true h
  obtain ⟨j, hj, rfl⟩ := nI_of h'.1
  exact ⟨j, (nI_ltI hj (by omega)).mp h'.2, rfl⟩
theorem isCl_t {x : Int32} (h : isCl x = true) : ∃ i, i < 4 ∧ x = nI i := by
  have h' := of_decide_eq_true h
  obtain ⟨j, hj, rfl⟩ := nI_of h'.1
  exact ⟨j, (nI_ltI hj (by omega)).mp h'.2, rfl⟩
theorem g_all_R (S : GS) (i : Nat) (kind : Int32) : ∀ t, gR (g_all S i kind t) = gR S
  | 0 => rfl
  | t + 1 => by
    rw [g_all]
    split
    · exact g_all_R S i kind t
    · exact g_all_R S i kind t
theorem g_all_T (S : GS) (i : Nat) (kind : Int32) : ∀ t, gT (g_all S i kind t) ≤ gT S + t
  | 0 => Nat.le_refl _
  | t + 1 => by
    have h := g_all_T S i kind t
    rw [g_all]
    split
    · omega
    · show gT (g_all S i kind t) + 1 ≤ _
      omega
theorem g_rep_rep (S : GS) (i : Nat) (R R' : RS) : g_rep (g_rep S i R) i R' = g_rep S i R' := by
  show (gT S, gL S, gM S, gN S, gA S, va_up (va_up (gR S) i R) i R') = _
  rw [va_va]
  rfl
theorem g_rep_id (S : GS) (i : Nat) : g_rep S i (gR S i) = S := by
  show (gT S, gL S, gM S, gN S, gA S, va_up (gR S) i (gR S i)) = S
  rw [va_id rfl]
theorem g_rep_R (S : GS) (i : Nat) (R : RS) : gR (g_rep S i R) i = R := va_s _ _ _
theorem r_put_C (R : RS) (m : Msg) : rC (r_put R m) = rC R := by
  unfold r_put
  split <;> rfl
theorem b24_akb {a : Nat → Int32} {e c0 : Int32} (h0 : b24 c0) (ha : ∀ t, t < N → b24 (a t)) : ∀ t, t ≤ N → b24 (akb a N e c0 t)
  | 0, _ => h0
  | t + 1, ht => by
    rw [akb]
    split
    · exact ha t (by omega)
    · exact b24_akb h0 ha t (by omega)
def fms (S : GS) (k : Int32) : Option Nat := if ¬ k < 0 ∧ k.toNatClampNeg < gT S ∧ gT S ≤ k.toNatClampNeg + 64 then some k.toNatClampNeg else none
def sml (x : Int32) : Prop := ∃ v : Nat, v < 2 ^ 30 ∧ x = nI v
theorem sml.ex {x : Int32} (h : sml x) : ∃ v : Nat, v < 2 ^ 31 ∧ x = nI v := by
  obtain ⟨v, h1, h2⟩ := h
  exact ⟨v, by omega, h2⟩
theorem sml_mx {x y : Int32} (hx : sml x) (hy : sml y) : sml (mx x y) := by
  unfold mx
  split
  · exact hy
  · exact hx
theorem sml_gvw {k : KM} : ∀ {t : Nat}, (∀ s m, s < t → k s = some m → sml (mV m)) → sml (gvw k t)
  | 0, _ => ⟨0, by decide, rfl⟩
  | t + 1, h => by
    have ih := sml_gvw (t := t) (fun s m hs hm => h s m (by omega) hm)
    rw [gvw]
    cases hk : k t with
    | none => exact ih
    | some m => exact sml_mx ih (h t m (by omega) hk)
def VI (N : Nat) (S : GS) : Prop := ∀ i, i < N → sml (rV (gR S i)) ∧ ∀ t m, t < N → rR (gR S i) t = some m → sml (mV m)
abbrev rp (S : GS) (x : Int32) : RS := gR S x.toNatClampNeg
def p_status (N : Nat) (S : GS) (x : Int32) : Int32 := if isR N x = true then rS (rp S x) else -1
def p_view (N : Nat) (S : GS) (x : Int32) : Int32 := if isR N x = true then rV (rp S x) else -1
def p_commit (N : Nat) (S : GS) (x : Int32) : Int32 := if isR N x = true then rC (rp S x) else -1
def p_length (N : Nat) (S : GS) (x : Int32) : Int32 := if isR N x = true then nI (rG (rp S x)).length else -1
def p_answered (S : GS) (x : Int32) : Int32 := if isCl x = true then gN S x.toNatClampNeg else -1
def p_answer (S : GS) (x : Int32) : Int32 := if isCl x = true then gA S x.toNatClampNeg else 0
def p_vector (N : Nat) (S : GS) (x y : Int32) : Int32 := if isR N x = true ∧ isR N y = true then rX (rp S x) y.toNatClampNeg else -1
def p_total (N : Nat) (S : GS) (x : Int32) : Int32 := if isR N x = true then tot (fse (rG (rp S x)) (rC (rp S x))) else 0
def hasE (N : Nat) (S : GS) (x k : Int32) : Bool := decide (isR N x = true ∧ ¬ k < 0 ∧ k < nI (rG (rp S x)).length)
theorem hasE_t {x k : Int32} (hN : N ≤ 5) (h : hasE N S x k = true) : ∃ i, i < N ∧ x = nI i := isR_t hN (of_decide_eq_true h).1
def p_entry (N : Nat) (S : GS) (x k : Int32) : Int32 := if hasE N S x k = true then (hd (fse (rG (rp S x)) (k + 1))).2.2 else 0
def p_origin (N : Nat) (S : GS) (x k : Int32) : Int32 := if hasE N S x k = true then (hd (fse (rG (rp S x)) (k + 1))).2.1 * 4 + (hd (fse (rG (rp S x)) (k + 1))).1 else -1
def p_message (S : GS) (k : Int32) : Int32 := match fms S k with
  | none => -1
  | some kk => mK (gM S kk) + 16 * nI (mS (gM S kk)) + 128 * nI (mD (gM S kk)) + 1024 * mV (gM S kk)
def VM (S : GS) : Prop := ∀ k, k < gT S → sml (mV (gM S k))
def p_deliver (N : Nat) (S : GS) (k : Int32) : Int32 × GS := match fms S k with
  | none => (-1, S)
  | some kk => g_recv N S (gM S kk)
def nxk (S : GS) : Int32 := mx (gL S + 1) (nI (gT S) - 64)
def g_lat (S : GS) (k : Int32) : GS := (gT S, k, S.2.2)
def p_next (N : Nat) (S : GS) : Int32 × GS := match fms S (nxk S) with
  | none => (-1, S)
  | some kk => g_recv N (g_lat S (nxk S)) (gM S kk)
def p_remind (N : Nat) (S : GS) (x : Int32) : Int32 × GS := if isR N x = true ∧ leads N (rp S x) x.toNatClampNeg then (1, g_all S x.toNatClampNeg 1 N) else (0, S)
def p_suspect (N : Nat) (S : GS) (x : Int32) : Int32 × GS := if isR N x = true ∧ (rS (rp S x) = 0 ∨ rS (rp S x) = 1) then (1, g_start N S x.toNatClampNeg (rV (rp S x) + 1)) else (0, S)
def olo (S : GS) (i : Nat) : Nat → Int32
  | 0 => 0
  | t + 1 => if ¬ t = i ∧ (rS (gR S t) = 3 ∨ rS (gR S t) = 2) then olo S i t + 1 else olo S i t
def p_crash (N : Nat) (S : GS) (x : Int32) : Int32 × GS := if isR N x = true ∧ ¬ rS (rp S x) = 3 ∧ olo S x.toNatClampNeg N < nI (N / 2) then (1, g_rep S x.toNatClampNeg (3, (r_fresh (rp S x)).2)) else (0, S)
def r_recov (R : RS) (i : Nat) (n : Int32) : RS := (2, 0, 0, [], 0, va_up (fun _ => 0) i n, fun _ => 0, 0, noK, noK, noK, n)
def p_recover (N : Nat) (S : GS) (x n : Int32) : Int32 × GS := if isR N x = true ∧ (rS (rp S x) = 3 ∨ rS (rp S x) = 2) ∧ rN (rp S x) < n then (1, g_all (g_rep S x.toNatClampNeg (r_recov (rp S x) x.toNatClampNeg n)) x.toNatClampNeg 7 N) else (0, S)
def r_add (R : RS) (e : Ent) : RS := (rS R, rV R, rL R, e :: rG R, R.2.2.2.2)
def p_request (N : Nat) (S : GS) (x c n v : Int32) : Int32 × GS :=
  if ¬ (isR N x = true ∧ isCl c = true ∧ 1 ≤ n) then (-1, S)
  else if ¬ leads N (rp S x) x.toNatClampNeg then (-2, S)
  else if n < gno (rG (rp S x)) c 0 then (-3, S)
  else match fnd (rG (rp S x)) c n with
    | some es => if nI es.length ≤ rC (rp S x) then (1, g_ans S es) else (2, S)
    | none => if nI (rG (rp S x)).length < 24 then (0, g_all (g_rep S x.toNatClampNeg (r_add (rp S x) (c, n, v))) x.toNatClampNeg 1 N) else (-4, S)
end PUB
end
section
section INV
variable {N n i : Nat} {S : GS} {R : RS} {m : Msg}
def okE (e : Ent) : Prop := ∃ c : Nat, c < 4 ∧ e.1 = nI c
def okL (es : List Ent) : Prop := es.length ≤ 24 ∧ ∀ e, e ∈ es → okE e
def vw (n : Nat) (x : Int32) : Prop := ∃ v : Nat, v ≤ n ∧ x = nI v
def InvM (N n : Nat) (m : Msg) : Prop := mS m < N ∧ mD m < N ∧ mS m ≠ mD m ∧ (∃ k : Nat, 1 ≤ k ∧ k ≤ 8 ∧ mK m = nI k) ∧ vw n (mV m) ∧ vw n (mL m) ∧ okL (mG m) ∧ b24 (mC m)
def KO (N n i : Nat) (km : KM) : Prop := ∀ t m, t < N → km t = some m → InvM N n m ∧ mS m = t ∧ mD m = i
def InvR (N n i : Nat) (R : RS) : Prop := (∃ k : Nat, k ≤ 3 ∧ rS R = nI k) ∧ vw n (rV R) ∧ vw n (rL R) ∧ okL (rG R) ∧ b24 (rC R) ∧ (∀ t, t < N → b24 (rA R t)) ∧ rA R i = 0 ∧ (rP R = 0 ∨ rP R = 1) ∧ KO N n i (rO R) ∧ KO N n i (rE R) ∧ KO N n i (rR R) ∧ (¬ rS R = 1 → ∀ t, t < N → rO R t = none ∧ rE R t = none) ∧ (¬ rS R = 2 → ∀ t, t < N → rR R t = none)
def Inv (N n : Nat) (S : GS) : Prop := (∀ i, i < N → InvR N n i (gR S i)) ∧ (∀ k, k < gT S → InvM N n (gM S k)) ∧ ∃ l : Nat, l ≤ gT S ∧ gL S + 1 = nI l
theorem vw.up {n' : Nat} {x : Int32} (h : vw n x) (hn : n ≤ n') : vw n' x := by
  obtain ⟨v, h1, h2⟩ := h
  exact ⟨v, by omega, h2⟩
theorem vw_0 : vw n 0 := ⟨0, Nat.zero_le _, rfl⟩
theorem vw_mx {x y : Int32} (hx : vw n x) (hy : vw n y) : vw n (mx x y) := by
  unfold mx
  split
  · exact hy
  · exact hx
theorem InvM.up {n' : Nat} (h : InvM N n m) (hn : n ≤ n') : InvM N n' m := by
  obtain ⟨h1, h2, h3, h4, h5, h6, h7⟩ := h
  exact ⟨h1, h2, h3, h4, h5.up hn, h6.up hn, h7⟩
theorem KO.up {n' : Nat} {km : KM} (h : KO N n i km) (hn : n ≤ n') : KO N n' i km := fun t m ht hm => ⟨(h t m ht hm).1.up hn, (h t m ht hm).2⟩
theorem InvR.up {n' : Nat} (h : InvR N n i R) (hn : n ≤ n') : InvR N n' i R := by
  obtain ⟨h1, h2, h3, h4, h5, h6, h7, h8, h9, h10, h11, h12⟩ := h
  exact ⟨h1, h2.up hn, h3.up hn, h4, h5, h6, h7, h8, h9.up hn, h10.up hn, h11.up hn, h12⟩
theorem Inv.up {n' : Nat} (h : Inv N n S) (hn : n ≤ n') : Inv N n' S := ⟨fun i hi => (h.1 i hi).up hn, fun k hk => (h.2.1 k hk).up hn, h.2.2⟩
theorem KO_no : KO N n i noK := fun t m _ h => by simp [noK] at h
theorem KO_drp {km : KM} {v : Nat → Int32} (h : KO N n i km) : KO N n i (drp km v) := by
  intro t m ht hm
  cases hk : km t with
  | none => simp [drp, hk] at hm
  | some m' =>
    have hm' : (if mX m' t < v t then none else some m') = some m := by simpa [drp, hk] using hm
    split at hm'
    · cases hm'
    · cases hm'
      exact h t _ ht hk
theorem KO_put {km : KM} (h : KO N n i km) (hm : InvM N n m) (hd : mD m = i) : KO N n i (va_up km (mS m) (some m)) := by
  intro t m' ht hm'
  by_cases e : t = mS m
  · subst e
    rw [va_s] at hm'
    cases hm'
    exact ⟨hm, rfl, hd⟩
  · rw [va_n e] at hm'
    exact h t m' ht hm'
theorem inv_rep (h : Inv N n S) (hR : InvR N n i R) : Inv N n (g_rep S i R) := by
  refine ⟨fun j hj => ?_, h.2.1, h.2.2⟩
  show InvR N n j (va_up (gR S) i R j)
  by_cases e : j = i
  · subst e
    rw [va_s]
    exact hR
  · rw [va_n e]
    exact h.1 j hj
theorem inv_mk {kind : Int32} {d k : Nat} (hR : InvR N n i R) (hi : i < N) (hd : d < N) (hne : i ≠ d) (hk : 1 ≤ k ∧ k ≤ 8 ∧ kind = nI k) : InvM N n (mkM R i kind d) := by
  obtain ⟨h1, h2, h3, h4, h5, h6⟩ := hR
  exact ⟨hi, hd, hne, ⟨k, hk⟩, h2, h3, h4, h5⟩
theorem inv_send {kind : Int32} {d k : Nat} (h : Inv N n S) (hi : i < N) (hd : d < N) (hne : i ≠ d) (hk : 1 ≤ k ∧ k ≤ 8 ∧ kind = nI k) : Inv N n (g_send S i kind d) := by
  refine ⟨h.1, fun j hj => ?_, ?_⟩
  · show InvM N n (va_up (gM S) (gT S) (mkM (gR S i) i kind d) j)
    have hj' : j < gT S + 1 := hj
    by_cases e : j = gT S
    · rw [e, va_s]
      exact inv_mk (h.1 i hi) hi hd hne hk
    · rw [va_n e]
      exact h.2.1 j (by omega)
  · obtain ⟨l, h1, h2⟩ := h.2.2
    exact ⟨l, Nat.le_succ_of_le h1, h2⟩
theorem inv_all {kind : Int32} {k : Nat} (h : Inv N n S) (hi : i < N) (hk : 1 ≤ k ∧ k ≤ 8 ∧ kind = nI k) : ∀ t, t ≤ N → Inv N n (g_all S i kind t)
  | 0, _ => h
  | t + 1, ht => by
    have ih := inv_all h hi hk t (by omega)
    rw [g_all]
    split
    · exact ih
    · rename_i hne
      exact inv_send ih hi (by omega) (fun e => hne e.symm) hk
theorem inv_ans {es : List Ent} (h : Inv N n S) : Inv N n (g_ans S es) := by
  unfold g_ans
  split
  · exact h
  · exact h
theorem inv_anss {es : List Ent} : ∀ {k : Nat} {c : Int32} {S : GS}, Inv N n S → Inv N n (g_anss es k c S)
  | 0, _, _, h => h
  | k + 1, c, S, h => inv_anss (k := k) (inv_ans h)
theorem okL_hd {es : List Ent} (h : okL es) : okE (hd es) := by
  cases es with
  | nil => exact ⟨0, by omega, rfl⟩
  | cons e es => exact h.2 e List.mem_cons_self
theorem inv_normal {v c : Int32} {lg : List Ent} (hR : InvR N n i R) (hv : vw n v) (hl : okL lg) (hc : b24 c) : InvR N n i (r_normal R v lg c) := by
  obtain ⟨h1, h2, h3, h4, h5, h6, h7, h8, h9, h10, h11, h12, h13⟩ := hR
  exact ⟨⟨0, by omega, rfl⟩, hv, hv, hl, hc, h6, h7, h8, KO_no, KO_no, KO_no, fun _ _ _ => ⟨rfl, rfl⟩, fun _ _ _ => rfl⟩
theorem inv_raise {w : Nat → Int32} (hR : InvR N n i R) : InvR N n i (r_raise R w) := by
  obtain ⟨h1, h2, h3, h4, h5, h6, h7, h8, h9, h10, h11, h12, h13⟩ := hR
  refine ⟨h1, h2, h3, h4, h5, h6, h7, h8, KO_drp h9, KO_drp h10, KO_drp h11, fun h t ht => ?_, fun h t ht => ?_⟩
  · have := h12 h t ht
    exact ⟨by show drp _ _ t = none; simp [drp, this.1], by show drp _ _ t = none; simp [drp, this.2]⟩
  · have := h13 h t ht
    show drp _ _ t = none
    simp [drp, this]
theorem inv_start {v : Int32} (hR : InvR N n i R) (hv : vw n v) : InvR N n i (r_start R v) := by
  obtain ⟨h1, h2, h3, h4, h5, h6, h7, h8, h9, h10, h11, h12, h13⟩ := hR
  exact ⟨⟨1, by omega, rfl⟩, hv, h3, h4, h5, h6, h7, Or.inl rfl, KO_no, KO_no, KO_no, fun h => absurd rfl h, fun _ _ _ => rfl⟩
theorem inv_gstart {v : Int32} (h : Inv N n S) (hi : i < N) (hv : vw n v) : Inv N n (g_start N S i v) :=
  inv_all (k := 5) (inv_rep h (inv_start (h.1 i hi) hv)) hi ⟨by omega, by omega, rfl⟩ N (Nat.le_refl _)
theorem inv_put (hR : InvR N n i R) (hm : okL (mG m)) : InvR N n i (r_put R m) := by
  unfold r_put
  split
  · rename_i he
    obtain ⟨h1, h2, h3, h4, h5⟩ := hR
    have hl : (mG m).length = (rG R).length + 1 := (nI_eq (by have := hm.1; omega) (by have := h4.1; omega)).mp (he.trans (nI_succ _).symm)
    refine ⟨h1, h2, h3, ⟨?_, fun e he' => ?_⟩, h5⟩
    · show (rG R).length + 1 ≤ 24
      rw [← hl]
      exact hm.1
    · rcases List.mem_cons.mp he' with rfl | h
      · exact okL_hd hm
      · exact h4.2 e h
  · exact hR
theorem inv_com {c : Int32} (hR : InvR N n i R) (hc : b24 c) : InvR N n i (r_com R c) := by
  obtain ⟨h1, h2, h3, h4, h5, h6⟩ := hR
  exact ⟨h1, h2, h3, h4, hc, h6⟩
theorem inv_prep (h : Inv N n S) (hi : i < N) (hm : InvM N n m) (hd : mD m = i) : Inv N n (g_prep S i m) := by
  have hne : i ≠ mS m := fun e => hm.2.2.1 (e.symm.trans hd.symm)
  unfold g_prep
  split
  · exact h
  · split
    · exact inv_send (k := 3) h hi hm.1 hne ⟨by omega, by omega, rfl⟩
    · have hp := inv_put (h.1 i hi) hm.2.2.2.2.2.2.1
      exact inv_send (k := 2) (inv_rep h (inv_com hp (b24_mx (h.1 i hi).2.2.2.2.1 (b24_mn hm.2.2.2.2.2.2.2 ⟨_, hp.2.2.2.1.1, rfl⟩)))) hi hm.1 hne ⟨by omega, by omega, rfl⟩
theorem inv_ack (hR : InvR N n i R) (hm : InvM N n m) (hd : mD m = i) : InvR N n i (r_ack R m) := by
  obtain ⟨h1, h2, h3, h4, h5, h6, h7, h8, h9⟩ := hR
  refine ⟨h1, h2, h3, h4, h5, fun t ht => ?_, ?_, h8, h9⟩
  · show b24 (va_up (rA R) (mS m) (mx (rA R (mS m)) (nI (mG m).length)) t)
    by_cases e : t = mS m
    · rw [e, va_s]
      exact b24_mx (h6 _ hm.1) ⟨_, hm.2.2.2.2.2.2.1.1, rfl⟩
    · rw [va_n e]
      exact h6 t ht
  · show va_up (rA R) (mS m) (mx (rA R (mS m)) (nI (mG m).length)) i = 0
    rw [va_n (fun e => hm.2.2.1 (e.symm.trans hd.symm))]
    exact h7
theorem inv_ok (h : Inv N n S) (hi : i < N) (hm : InvM N n m) (hd : mD m = i) : Inv N n (g_ok N S i m) := by
  unfold g_ok
  split
  · exact h
  · have ha := inv_ack (h.1 i hi) hm hd
    exact inv_anss (inv_rep h (inv_com ha (b24_akb (h.1 i hi).2.2.2.2.1 ha.2.2.2.2.2.1 N (Nat.le_refl _))))
theorem prim_lt {v : Int32} (hN : N = 3 ∨ N = 5) (hv : vw n v) (hn : n < 2 ^ 30) : prim N v < N ∧ fmod v (nI N) = nI (prim N v) := by
  obtain ⟨k, hk, rfl⟩ := hv
  have h1 : fmod (nI k) (nI N) = nI (k % N) := fm_N (by omega) hN
  have h2 : k % N < N := Nat.mod_lt _ (by omega)
  have h3 : prim N (nI k) = k % N := by rw [prim, h1]; exact nI_clamp (by omega)
  rw [h3]
  exact ⟨h2, h1⟩
theorem inv_state (hN : N = 3 ∨ N = 5) (hn : n < 2 ^ 30) (h : Inv N n S) (hi : i < N) (hm : InvM N n m) : Inv N n (g_state N S i m) := by
  unfold g_state
  split
  · exact h
  · rename_i hne
    split
    · obtain ⟨p1, p2⟩ := prim_lt hN hm.2.2.2.2.1 hn
      refine inv_send (k := 2) (inv_rep h (inv_normal (h.1 i hi) hm.2.2.2.2.1 hm.2.2.2.2.2.2.1 (b24_mx (h.1 i hi).2.2.2.2.1 hm.2.2.2.2.2.2.2))) hi p1 (fun e => hne ?_) ⟨by omega, by omega, rfl⟩
      rw [p2, ← e]
    · exact h
theorem inv_join (h : Inv N n S) (hi : i < N) (hm : InvM N n m) : Inv N n (g_join N S i m) := by
  unfold g_join
  split
  · exact inv_gstart h hi hm.2.2.2.2.1
  · exact h
theorem inv_vote (hN : N = 3 ∨ N = 5) (hn : n < 2 ^ 30) (h : Inv N n S) (hi : i < N) (hm : InvM N n m) (hd : mD m = i) (hs : rS (gR S i) = 1) : Inv N n (g_vote N S i m) := by
  have hR := h.1 i hi
  have hv : InvR N n i (r_vote (gR S i) m) := by
    obtain ⟨h1, h2, h3, h4, h5, h6, h7, h8, h9, h10, h11, h12, h13⟩ := hR
    exact ⟨h1, h2, h3, h4, h5, h6, h7, h8, KO_put h9 hm hd, h10, h11, fun q => absurd hs q, h13⟩
  have h1 := inv_rep h hv
  unfold g_vote
  split
  · rename_i hc
    obtain ⟨p1, p2⟩ := prim_lt hN hR.2.1 hn
    have h2 := inv_send (k := 6) (kind := 6) h1 hi p1 (fun e => hc.1 (by rw [p2, ← e])) ⟨by omega, by omega, rfl⟩
    refine inv_rep h2 ?_
    obtain ⟨h1, h2, h3, h4, h5, h6, h7, h8, h9⟩ := hv
    exact ⟨h1, h2, h3, h4, h5, h6, h7, Or.inr rfl, h9⟩
  · exact h1
theorem bst_ok {k : KM} {b0 : List Ent × Int32 × Int32} (h1 : okL b0.1) (h2 : b24 b0.2.2) (hk : KO N n i k) : ∀ t, t ≤ N → okL (bst k b0 t).1 ∧ b24 (bst k b0 t).2.2
  | 0, _ => ⟨h1, h2⟩
  | t + 1, ht => by
    have ih := bst_ok h1 h2 hk t (by omega)
    cases hkt : k t with
    | none =>
      rw [bst_n hkt]
      exact ih
    | some m =>
      have hm := (hk t m (by omega) hkt).1
      have hb := b24_mx ih.2 hm.2.2.2.2.2.2.2
      by_cases hc : (bst k b0 t).2.1 < mL m ∨ (mL m = (bst k b0 t).2.1 ∧ nI (bst k b0 t).1.length < nI (mG m).length)
      · rw [bst_p hkt hc]
        exact ⟨hm.2.2.2.2.2.2.1, hb⟩
      · rw [bst_m hkt hc]
        exact ⟨ih.1, hb⟩
theorem inv_paper (h : Inv N n S) (hi : i < N) (hm : InvM N n m) (hd : mD m = i) (hs : rS (gR S i) = 1) : Inv N n (g_paper N S i m) := by
  have hR := h.1 i hi
  have hv : InvR N n i (r_pap (gR S i) m) := by
    obtain ⟨h1, h2, h3, h4, h5, h6, h7, h8, h9, h10, h11, h12, h13⟩ := hR
    exact ⟨h1, h2, h3, h4, h5, h6, h7, h8, h9, KO_put h10 hm hd, h11, fun q => absurd hs q, h13⟩
  unfold g_paper
  split
  · have hp : InvR N n i (r_primary (r_pap (gR S i) m) N) := by
      obtain ⟨h1, h2, h3, h4, h5, h6, h7, h8, h9, h10, h11, h12, h13⟩ := hv
      obtain ⟨b1, b2⟩ := bst_ok (b0 := (rG (r_pap (gR S i) m), rL (r_pap (gR S i) m), rC (r_pap (gR S i) m))) h4 h5 h10 N (Nat.le_refl _)
      exact ⟨⟨0, by omega, rfl⟩, h2, h2, b1, b2, fun _ _ => b24_0, rfl, h8, KO_no, KO_no, KO_no, fun _ _ _ => ⟨rfl, rfl⟩, fun _ _ _ => rfl⟩
    exact inv_all (k := 4) (inv_rep h hp) hi ⟨by omega, by omega, rfl⟩ N (Nat.le_refl _)
  · exact inv_rep h hv
theorem vw_gvw {k : KM} (hk : KO N n i k) : ∀ t, t ≤ N → vw n (gvw k t)
  | 0, _ => vw_0
  | t + 1, ht => by
    have ih := vw_gvw hk t (by omega)
    rw [gvw]
    cases hkt : k t with
    | none => exact ih
    | some m => exact vw_mx ih (hk t m (by omega) hkt).1.2.2.2.2.1
theorem inv_resp (hN : N = 3 ∨ N = 5) (hn : n < 2 ^ 30) (h : Inv N n S) (hi : i < N) (hm : InvM N n m) (hd : mD m = i) (hs : rS (gR S i) = 2) : Inv N n (g_rep S i (r_reco N (r_resp (gR S i) m))) := by
  have hR := h.1 i hi
  have hv : InvR N n i (r_resp (gR S i) m) := by
    obtain ⟨h1, h2, h3, h4, h5, h6, h7, h8, h9, h10, h11, h12, h13⟩ := hR
    exact ⟨h1, h2, h3, h4, h5, h6, h7, h8, h9, h10, KO_put h11 hm hd, h12, fun q => absurd hs q⟩
  refine inv_rep h ?_
  have hg := vw_gvw hv.2.2.2.2.2.2.2.2.2.2.1 N (Nat.le_refl _)
  obtain ⟨p1, p2⟩ := prim_lt hN hg hn
  unfold r_reco
  split
  · exact hv
  · split
    · exact hv
    · rename_i L hL
      split
      · have hm' := (hv.2.2.2.2.2.2.2.2.2.2.1 _ L p1 hL).1
        exact inv_normal hv hg hm'.2.2.2.2.2.2.1 hm'.2.2.2.2.2.2.2
      · exact hv
theorem inv_reply {kind : Int32} {k : Nat} (h : Inv N n S) (hi : i < N) (hm : InvM N n m) (hd : mD m = i) (hk : 1 ≤ k ∧ k ≤ 8 ∧ kind = nI k) : Inv N n (g_reply S i m kind) := by
  unfold g_reply
  split
  · exact inv_send h hi hm.1 (fun e => hm.2.2.1 (e.symm.trans hd.symm)) hk
  · exact h
theorem inv_kind (hN : N = 3 ∨ N = 5) (hn : n < 2 ^ 30) (h : Inv N n S) (hi : i < N) (hm : InvM N n m) (hd : mD m = i) (hs : rS (gR S i) = 2 ↔ mK m = 8) : Inv N n (g_kind N S i m) := by
  unfold g_kind
  repeat' split
  · exact inv_prep h hi hm hd
  · exact inv_ok h hi hm hd
  · exact inv_reply (k := 4) h hi hm hd ⟨by omega, by omega, rfl⟩
  · exact inv_state hN hn h hi hm
  · rename_i hc
    exact inv_vote hN hn (inv_join h hi hm) hi hm hd hc.2
  · exact inv_join h hi hm
  · rename_i hc
    exact inv_paper (inv_join h hi hm) hi hm hd hc.2
  · exact inv_join h hi hm
  · exact inv_reply (k := 8) h hi hm hd ⟨by omega, by omega, rfl⟩
  · rename_i h8
    exact inv_resp hN hn h hi hm hd (hs.mpr h8)
  · exact h
theorem inv_recv (hN : N = 3 ∨ N = 5) (hn : n < 2 ^ 30) (h : Inv N n S) (hm : InvM N n m) : Inv N n (g_recv N S m).2 := by
  unfold g_recv
  split
  · exact h
  · rename_i hh
    split
    · exact h
    · have hh' := Classical.not_not.mp hh
      refine inv_kind hN hn (inv_rep h (inv_raise (h.1 _ hm.2.1))) hm.2.1 hm rfl ?_
      rw [g_rep_R]
      exact hh'.2
end INV
end
section
section INVP
variable {N n i : Nat} {S : GS} {R : RS} {m : Msg}
theorem T_ans {es : List Ent} : gT (g_ans S es) = gT S := by
  unfold g_ans
  split <;> rfl
theorem T_anss {es : List Ent} : ∀ (k : Nat) (c : Int32) (S : GS), gT (g_anss es k c S) = gT S
  | 0, _, _ => rfl
  | k + 1, c, S => (T_anss k (c + 1) (g_ans S (fse es c))).trans T_ans
theorem T_start {v : Int32} : gT (g_start N S i v) ≤ gT S + N := g_all_T (g_rep S i (r_start (gR S i) v)) i 5 N
theorem T_join : gT (g_join N S i m) ≤ gT S + N := by
  unfold g_join
  split
  · exact T_start
  · omega
theorem T_prep : gT (g_prep S i m) ≤ gT S + 1 := by
  unfold g_prep
  repeat' split
  · omega
  · exact Nat.le_refl _
  · exact Nat.le_refl _
theorem T_ok : gT (g_ok N S i m) ≤ gT S := by
  unfold g_ok
  split
  · exact Nat.le_refl _
  · rw [T_anss]
    exact Nat.le_refl _
theorem T_state : gT (g_state N S i m) ≤ gT S + 1 := by
  unfold g_state
  repeat' split
  · omega
  · exact Nat.le_refl _
  · omega
theorem T_reply {kind : Int32} : gT (g_reply S i m kind) ≤ gT S + 1 := by
  unfold g_reply
  split
  · exact Nat.le_refl _
  · omega
theorem T_vote : gT (g_vote N S i m) ≤ gT S + 1 := by
  unfold g_vote
  split
  · exact Nat.le_refl _
  · show gT S ≤ gT S + 1
    omega
theorem T_paper : gT (g_paper N S i m) ≤ gT S + N := by
  unfold g_paper
  split
  · exact g_all_T (g_rep S i (r_primary (r_pap (gR S i) m) N)) i 4 N
  · show gT S ≤ gT S + N
    omega
theorem T_kind (hN : N ≤ 5) : gT (g_kind N S i m) ≤ gT S + 10 := by
  have hj := T_join (N := N) (S := S) (i := i) (m := m)
  unfold g_kind
  repeat' split
  · have := T_prep (S := S) (i := i) (m := m)
    omega
  · have := T_ok (N := N) (S := S) (i := i) (m := m)
    omega
  · have := T_reply (S := S) (i := i) (m := m) (kind := 4)
    omega
  · have := T_state (N := N) (S := S) (i := i) (m := m)
    omega
  · have := T_vote (N := N) (S := g_join N S i m) (i := i) (m := m)
    omega
  · omega
  · have := T_paper (N := N) (S := g_join N S i m) (i := i) (m := m)
    omega
  · omega
  · have := T_reply (S := S) (i := i) (m := m) (kind := 8)
    omega
  · show gT S ≤ gT S + 10
    omega
  · omega
theorem T_recv (hN : N ≤ 5) : gT (g_recv N S m).2 ≤ gT S + 10 := by
  unfold g_recv
  repeat' split
  · show gT S ≤ gT S + 10
    omega
  · show gT S ≤ gT S + 10
    omega
  · exact T_kind (S := g_rep S (mD m) (r_raise (gR S (mD m)) (mX m))) hN
def Ok (N n : Nat) (S : GS) : Prop := Inv N n S ∧ gT S ≤ 10 * n
theorem Ok.up (h : Ok N n S) : Ok N (n + 1) S := ⟨h.1.up (by omega), by have := h.2; omega⟩
theorem fms_s {k : Int32} {kk : Nat} (h : fms S k = some kk) : kk < gT S ∧ gT S ≤ kk + 64 ∧ k = nI kk := by
  unfold fms at h
  split at h
  · rename_i hc
    cases h
    refine ⟨hc.2.1, hc.2.2, ?_⟩
    obtain ⟨j, hj, rfl⟩ := nI_of hc.1
    rw [nI_clamp hj]
  · cases h
theorem ok_deliver {k : Int32} (hN : N = 3 ∨ N = 5) (hn : n < 2 ^ 30) (h : Ok N n S) : Ok N (n + 1) (p_deliver N S k).2 := by
  unfold p_deliver
  split
  · exact h.up
  · rename_i kk hk
    have := T_recv (N := N) (S := S) (m := gM S kk) (by omega)
    have h2 := h.2
    exact ⟨(inv_recv hN hn h.1 (h.1.2.1 kk (fms_s hk).1)).up (by omega), by omega⟩
theorem ok_next (hN : N = 3 ∨ N = 5) (hn : n < 2 ^ 30) (h : Ok N n S) : Ok N (n + 1) (p_next N S).2 := by
  unfold p_next
  split
  · exact h.up
  · rename_i kk hk
    obtain ⟨k1, k2, k3⟩ := fms_s hk
    have hL : Inv N n (g_lat S (nxk S)) := ⟨h.1.1, h.1.2.1, kk + 1, k1, by show nxk S + 1 = _; rw [k3, nI_succ]⟩
    have := T_recv (N := N) (S := g_lat S (nxk S)) (m := gM S kk) (by omega)
    have h2 := h.2
    have h3 : gT (g_lat S (nxk S)) = gT S := rfl
    exact ⟨(inv_recv hN hn hL (h.1.2.1 kk k1)).up (by omega), by omega⟩
theorem ok_remind {x : Int32} (hN : N = 3 ∨ N = 5) (h : Ok N n S) : Ok N (n + 1) (p_remind N S x).2 := by
  unfold p_remind
  split
  · rename_i hc
    obtain ⟨i, hi, rfl⟩ := isR_t (by omega) hc.1
    rw [nI_clamp (by omega)]
    have := g_all_T S i 1 N
    have h2 := h.2
    exact ⟨(inv_all (k := 1) h.1 hi ⟨by omega, by omega, rfl⟩ N (Nat.le_refl _)).up (by omega), by show gT (g_all S i 1 N) ≤ _; omega⟩
  · exact h.up
theorem ok_suspect {x : Int32} (hN : N = 3 ∨ N = 5) (h : Ok N n S) : Ok N (n + 1) (p_suspect N S x).2 := by
  unfold p_suspect
  split
  · rename_i hc
    obtain ⟨i, hi, rfl⟩ := isR_t (by omega) hc.1
    have hcl : (nI i).toNatClampNeg = i := nI_clamp (by omega)
    show Ok N (n + 1) (g_start N S (nI i).toNatClampNeg (rV (gR S (nI i).toNatClampNeg) + 1))
    rw [hcl]
    obtain ⟨v, hv, he⟩ := (h.1.1 i hi).2.1
    have := T_start (N := N) (S := S) (i := i) (v := rV (gR S i) + 1)
    have h2 := h.2
    exact ⟨inv_gstart (h.1.up (by omega)) hi ⟨v + 1, by omega, by rw [he, nI_succ]⟩, by omega⟩
  · exact h.up
theorem inv_fresh (hR : InvR N n i R) : InvR N n i (r_fresh R) := by
  obtain ⟨h1, h2⟩ := hR
  exact ⟨h1, vw_0, vw_0, ⟨Nat.zero_le _, fun e he => (List.not_mem_nil he).elim⟩, b24_0, fun _ _ => b24_0, rfl, Or.inl rfl, KO_no, KO_no, KO_no, fun _ _ _ => ⟨rfl, rfl⟩, fun _ _ _ => rfl⟩
theorem ok_crash {x : Int32} (hN : N = 3 ∨ N = 5) (h : Ok N n S) : Ok N (n + 1) (p_crash N S x).2 := by
  unfold p_crash
  split
  · rename_i hc
    obtain ⟨i, hi, rfl⟩ := isR_t (by omega) hc.1
    have hcl : (nI i).toNatClampNeg = i := nI_clamp (by omega)
    show Ok N (n + 1) (g_rep S (nI i).toNatClampNeg (3, (r_fresh (gR S (nI i).toNatClampNeg)).2))
    rw [hcl]
    have h2 := h.2
    refine ⟨inv_rep (h.1.up (by omega)) ?_, by show gT S ≤ _; omega⟩
    obtain ⟨h1, h3⟩ := inv_fresh (h.1.1 i hi)
    exact InvR.up (n := n) ⟨⟨3, by omega, rfl⟩, vw_0, vw_0, ⟨Nat.zero_le _, fun e he => (List.not_mem_nil he).elim⟩, b24_0, fun _ _ => b24_0, rfl, Or.inl rfl, KO_no, KO_no, KO_no, fun _ _ _ => ⟨rfl, rfl⟩, fun _ _ _ => rfl⟩ (by omega)
  · exact h.up
theorem ok_recover {x k : Int32} (hN : N = 3 ∨ N = 5) (h : Ok N n S) : Ok N (n + 1) (p_recover N S x k).2 := by
  unfold p_recover
  split
  · rename_i hc
    obtain ⟨i, hi, rfl⟩ := isR_t (by omega) hc.1
    have hcl : (nI i).toNatClampNeg = i := nI_clamp (by omega)
    show Ok N (n + 1) (g_all (g_rep S (nI i).toNatClampNeg (r_recov (gR S (nI i).toNatClampNeg) (nI i).toNatClampNeg k)) (nI i).toNatClampNeg 7 N)
    rw [hcl]
    have hT := g_all_T (g_rep S i (r_recov (gR S i) i k)) i 7 N
    have h9 : gT (g_rep S i (r_recov (gR S i) i k)) = gT S := rfl
    have h2 := h.2
    have hR : InvR N (n + 1) i (r_recov (gR S i) i k) := ⟨⟨2, by omega, rfl⟩, vw_0, vw_0, ⟨Nat.zero_le _, fun e he => (List.not_mem_nil he).elim⟩, b24_0, fun _ _ => b24_0, rfl, Or.inl rfl, KO_no, KO_no, KO_no, fun _ _ _ => ⟨rfl, rfl⟩, fun q => absurd rfl q⟩
    exact ⟨inv_all (k := 7) (inv_rep (h.1.up (by omega)) hR) hi ⟨by omega, by omega, rfl⟩ N (Nat.le_refl _), by omega⟩
  · exact h.up
theorem ok_request {x c k v : Int32} (hN : N = 3 ∨ N = 5) (h : Ok N n S) : Ok N (n + 1) (p_request N S x c k v).2 := by
  unfold p_request
  split
  · exact h.up
  · rename_i hc
    have hc' := Classical.not_not.mp hc
    obtain ⟨i, hi, rfl⟩ := isR_t (by omega) hc'.1
    obtain ⟨cc, hcc, rfl⟩ := isCl_t hc'.2.1
    have hcl : (nI i).toNatClampNeg = i := nI_clamp (by omega)
    split
    · exact h.up
    · split
      · exact h.up
      · split
        · split
          · exact ⟨(inv_ans h.1).up (by omega), by have := h.2; show gT (g_ans S _) ≤ _; rw [T_ans]; omega⟩
          · exact h.up
        · split
          · rename_i hlen
            show Ok N (n + 1) (g_all (g_rep S (nI i).toNatClampNeg (r_add (gR S (nI i).toNatClampNeg) (nI cc, k, v))) (nI i).toNatClampNeg 1 N)
            have hlen' : nI (rG (gR S (nI i).toNatClampNeg)).length < 24 := hlen
            rw [hcl] at hlen' ⊢
            have hT := g_all_T (g_rep S i (r_add (gR S i) (nI cc, k, v))) i 1 N
            have h9 : gT (g_rep S i (r_add (gR S i) (nI cc, k, v))) = gT S := rfl
            have h2 := h.2
            have hR : InvR N n i (r_add (gR S i) (nI cc, k, v)) := by
              obtain ⟨a1, a2, a3, a4, a5⟩ := h.1.1 i hi
              refine ⟨a1, a2, a3, ⟨?_, fun e he => ?_⟩, a5⟩
              · show (rG (gR S i)).length + 1 ≤ 24
                have h24 := a4.1
                rcases Nat.lt_or_ge (rG (gR S i)).length 24 with h8 | h8
                · omega
                · exact absurd hlen' (nI_nlt h8 (by omega))
              · rcases List.mem_cons.mp he with rfl | h8
                · exact ⟨cc, hcc, rfl⟩
                · exact a4.2 e h8
            exact ⟨(inv_all (k := 1) (inv_rep h.1 hR) hi ⟨by omega, by omega, rfl⟩ N (Nat.le_refl _)).up (by omega), by omega⟩
          · exact h.up
end INVP
end
section
section QROWS
abbrev QS : Type := (Nat → Nat → Int32) × Int32 × Int32
def qk (j : Nat) : Nat := if j = 12 ∨ j = 14 ∨ j = 16 then 1 else 0
def ql (j : Nat) : Nat := if j = 2 then 95 else if j < 6 then 2280 else if j < 10 then 5 else if j < 12 then 25 else if j < 14 then 5 else if j < 21 then 25 else if j < 27 then 65 else if j < 28 then 325 else 4
theorem ql_le (j : Nat) : ql j ≤ 2280 := by
  unfold ql
  repeat' split
  all_goals omega
def qobj (B : Nat → Nat) (N : Nat) (s : QS) : List Value := [.int (nI N), .int (nI (N / 2)), .ref (B 2), .ref (B 3), .ref (B 4), .ref (B 5), .ref (B 6), .ref (B 7), .ref (B 8), .ref (B 9), .ref (B 10), .ref (B 11), .ref (B 12), .ref (B 13), .ref (B 14), .ref (B 15), .ref (B 16), .ref (B 17), .ref (B 18), .ref (B 19), .ref (B 20), .ref (B 21), .ref (B 22), .ref (B 23), .ref (B 24), .ref (B 25), .ref (B 26), .ref (B 27), .int s.2.1, .int s.2.2, .ref (B 30), .ref (B 31)]
def qc (B : Nat → Nat) (N : Nat) (s : QS) : Nat → PC := fun j => if j = 0 then .inl (4, qobj B N s) else .inr (.inl (qk j, ql j, s.1 j))
noncomputable def hQ (f : HF) (B : Nat → Nat) (N : Nat) (s : QS) : HF := hC 32 B f (qc B N s)
def qw (s : QS) (j i : Nat) (x : Int32) : QS := (va_up s.1 j (upd (s.1 j) i x), s.2)
theorem qw_a (s : QS) (j i : Nat) (x : Int32) (j' i' : Nat) : (qw s j i x).1 j' i' = if j' = j ∧ i' = i then x else s.1 j' i' := by
  show va_up s.1 j (upd (s.1 j) i x) j' i' = _
  by_cases h : j' = j
  · subst h
    by_cases h2 : i' = i
    · simp [va_up, upd, h2]
    · simp [va_up, upd, h2]
  · simp [va_up, h]
theorem qw_2 (s : QS) (j i : Nat) (x : Int32) : (qw s j i x).2 = s.2 := rfl
theorem nI_mul (a b : Nat) : nI a * nI b = nI (a * b) := (Int32.ofNat_mul a b).symm
theorem nn_1 : (1 : Int32) = nI 1 := rfl
theorem nn_5 : (5 : Int32) = nI 5 := rfl
theorem nn_6 : (6 : Int32) = nI 6 := rfl
theorem nn_24 : (24 : Int32) = nI 24 := rfl
theorem nn_64 : (64 : Int32) = nI 64 := rfl
theorem nn_320 : (320 : Int32) = nI 320 := rfl
theorem nn_1656 : (1656 : Int32) = nI 1656 := rfl
theorem nn_69 : (69 : Int32) = nI 69 := rfl
theorem nn_70 : (70 : Int32) = nI 70 := rfl
variable {l : Launch} {D : va_G} {cid : Nat → ClassId} {os : List OP} {t : KN} {lv : LV} {st r : List Value} {bc bs : Nat} {f : HF} {B : Nat → Nat} {N : Nat} {s : QS}
theorem qc_w {j c : Nat} {x : Int32} (hj : ¬ j = 0) : va_up (qc B N s) j (.inr (.inl (qk j, ql j, upd (s.1 j) c x))) = qc B N (qw s j c x) := by
  funext k
  by_cases hk : k = j
  · subst hk
    rw [va_s]
    simp only [qc, if_neg hj, qw, va_s]
  · rw [va_n hk]
    by_cases h0 : k = 0
    · subst h0
      rfl
    · simp only [qc, if_neg h0, qw, va_n hk]
theorem q_this (hB : AI 32 B) : hQ f B N s (B 0) = some (.inl (4, qobj B N s)) := c_cell hB (by decide) rfl
theorem q_cell (hB : AI 32 B) {j : Nat} (h0 : ¬ j = 0) (hj : j < 32) : hQ f B N s (B j) = some (.inr (.inl (qk j, ql j, s.1 j))) := c_cell hB hj (if_neg h0)
theorem q_getf {j : Nat} {v : Value} (hB : AI 32 B) (hv : (qobj B N s)[j]? = some v) (kk : seg os t lv (v :: r) (hQ f B N s) bc bs) : seg (o_getf 4 j :: os) t lv (.ref (B 0) :: r) (hQ f B N s) bc bs := i_getf (q_this hB) hv kk
def qj (j kd : Nat) : Bool := Nat.blt 0 j && Nat.blt j 32 && Nat.beq (qk j) kd
theorem qj_s {j kd : Nat} (h : qj j kd = true) : ¬ j = 0 ∧ j < 32 ∧ qk j = kd := by
  simp only [qj, Bool.and_eq_true] at h
  have h1 : 0 < j := Nat.blt_eq.mp h.1.1
  exact ⟨by omega, Nat.blt_eq.mp h.1.2, Nat.eq_of_beq_eq_true h.2⟩
theorem q_ald {kd j c : Nat} {i : Int32} (hB : AI 32 B) (hi : i = nI c) (hc : c < ql j) (kk : seg os t lv (.int (s.1 j c) :: r) (hQ f B N s) bc bs) (hj : qj j kd = true := by rfl) : seg (o_ald kd :: os) t lv (.int i :: .ref (B j) :: r) (hQ f B N s) bc bs := by
  obtain ⟨h0, h1, h2⟩ := qj_s hj
  have hq := ql_le j
  have h3 := q_cell (f := f) (N := N) (s := s) hB h0 h1
  rw [h2] at h3
  exact i_ald h3 ⟨hi, hc, by omega⟩ kk
theorem q_ast {j c : Nat} {i x : Int32} (hB : AI 32 B) (hi : i = nI c) (hc : c < ql j) (kk : seg os t lv r (hQ f B N (qw s j c x)) bc bs) (hj : qj j 0 = true := by rfl) : seg (o_ast :: os) t lv (.int x :: .int i :: .ref (B j) :: r) (hQ f B N s) bc bs := by
  obtain ⟨h0, h1, h2⟩ := qj_s hj
  have hq := ql_le j
  have h3 := q_cell (f := f) (N := N) (s := s) hB h0 h1
  have h4 : hup (hQ f B N s) (B j) (.inr (.inl (qk j, ql j, upd (s.1 j) c x))) = hQ f B N (qw s j c x) := by
    rw [hQ, hC_up hB h1, qc_w h0]
    rfl
  rw [h2] at h3 h4
  refine i_ast h3 ⟨hi, hc, by omega⟩ ?_
  rw [h4]
  exact kk
theorem q_zst {j c : Nat} {i x : Int32} (hB : AI 32 B) (hi : i = nI c) (hc : c < ql j) (kk : seg os t lv r (hQ f B N (qw s j c x)) bc bs) (hj : qj j 1 = true := by rfl) (hx : x = 0 ∨ x = 1 := by first | exact Or.inl rfl | exact Or.inr rfl | exact bI_01 _ | assumption) : seg (o_zst :: os) t lv (.int x :: .int i :: .ref (B j) :: r) (hQ f B N s) bc bs := by
  obtain ⟨h0, h1, h2⟩ := qj_s hj
  have hq := ql_le j
  have h3 := q_cell (f := f) (N := N) (s := s) hB h0 h1
  have h4 : hup (hQ f B N s) (B j) (.inr (.inl (qk j, ql j, upd (s.1 j) c x))) = hQ f B N (qw s j c x) := by
    rw [hQ, hC_up hB h1, qc_w h0]
    rfl
  rw [h2] at h3 h4
  refine i_zst h3 ⟨hi, hc, by omega⟩ ?_ hx
  rw [h4]
  exact kk
theorem qc_o {s' : QS} (h : s'.1 = s.1) : va_up (qc B N s) 0 (.inl (4, qobj B N s')) = qc B N s' := by
  funext k
  by_cases h0 : k = 0
  · subst h0
    rw [va_s]
    rfl
  · rw [va_n h0]
    simp only [qc, if_neg h0, h]
theorem q_put28 {x : Int32} (hB : AI 32 B) (kk : seg os t lv r (hQ f B N (s.1, x, s.2.2)) bc bs) : seg (o_put okI 4 28 :: os) t lv (.int x :: .ref (B 0) :: r) (hQ f B N s) bc bs := by
  have h4 : hup (hQ f B N s) (B 0) (.inl (4, (qobj B N s).set 28 (.int x))) = hQ f B N (s.1, x, s.2.2) := by
    rw [hQ, hC_up hB (by decide)]
    exact congrArg (hC 32 B f) (qc_o (s := s) (s' := (s.1, x, s.2.2)) rfl)
  refine i_putI (q_this hB) rfl ?_
  rw [h4]
  exact kk
theorem q_put29 {x : Int32} (hB : AI 32 B) (kk : seg os t lv r (hQ f B N (s.1, s.2.1, x)) bc bs) : seg (o_put okI 4 29 :: os) t lv (.int x :: .ref (B 0) :: r) (hQ f B N s) bc bs := by
  have h4 : hup (hQ f B N s) (B 0) (.inl (4, (qobj B N s).set 29 (.int x))) = hQ f B N (s.1, s.2.1, x) := by
    rw [hQ, hC_up hB (by decide)]
    exact congrArg (hC 32 B f) (qc_o (s := s) (s' := (s.1, s.2.1, x)) rfl)
  refine i_putI (q_this hB) rfl ?_
  rw [h4]
  exact kk
end QROWS
end
section
section QREL
variable {s s' : QS} {N : Nat}
theorem QS_ext (h1 : ∀ j x, s.1 j x = s'.1 j x) (h2 : s.2 = s'.2) : s = s' := Prod.ext (funext fun j => funext fun x => h1 j x) h2
def cp (s : QS) (a b L : Nat) : QS := (fun j x => if j = 2 ∧ x = b then s.1 2 a else if (3 ≤ j ∧ j ≤ 5) ∧ 24 * b ≤ x ∧ x < 24 * b + L then s.1 j (24 * a + (x - 24 * b)) else s.1 j x, s.2)
theorem cp_a (s : QS) (a b L j x : Nat) : (cp s a b L).1 j x = if j = 2 ∧ x = b then s.1 2 a else if (3 ≤ j ∧ j ≤ 5) ∧ 24 * b ≤ x ∧ x < 24 * b + L then s.1 j (24 * a + (x - 24 * b)) else s.1 j x := rfl
theorem cp_0 (s : QS) (a b : Nat) : qw s 2 b (s.1 2 a) = cp s a b 0 := by
  refine QS_ext (fun j x => ?_) rfl
  rw [qw_a, cp_a, if_neg (c := (3 ≤ j ∧ j ≤ 5) ∧ 24 * b ≤ x ∧ x < 24 * b + 0) (by omega)]
theorem cp_r {a b k j : Nat} (hab : a ≠ b) (hk : k < 24) (hj : 3 ≤ j ∧ j ≤ 5) : (cp s a b k).1 j (24 * a + k) = s.1 j (24 * a + k) := by
  rw [cp_a, if_neg (by omega), if_neg (by omega)]
theorem cp_s {a b k : Nat} (hab : a ≠ b) (hk : k < 24) : qw (qw (qw (cp s a b k) 3 (24 * b + k) ((cp s a b k).1 3 (24 * a + k))) 4 (24 * b + k) ((cp s a b k).1 4 (24 * a + k))) 5 (24 * b + k) ((cp s a b k).1 5 (24 * a + k)) = cp s a b (k + 1) := by
  refine QS_ext (fun j x => ?_) rfl
  rw [cp_r hab hk (by omega), cp_r hab hk (by omega), cp_r hab hk (by omega)]
  simp only [qw_a, cp_a]
  by_cases hx : x = 24 * b + k
  · subst hx
    have e : 24 * a + (24 * b + k - 24 * b) = 24 * a + k := by omega
    rw [e]
    by_cases h3 : j = 3
    · subst h3; simp
    · by_cases h4 : j = 4
      · subst h4; simp
      · by_cases h5 : j = 5
        · subst h5; simp
        · have n1 : ¬ (3 ≤ j ∧ j ≤ 5) := by omega
          simp [h3, h4, h5, n1]
  · have e : ((3 ≤ j ∧ j ≤ 5) ∧ 24 * b ≤ x ∧ x < 24 * b + (k + 1)) = ((3 ≤ j ∧ j ≤ 5) ∧ 24 * b ≤ x ∧ x < 24 * b + k) := propext ⟨fun h => ⟨h.1, h.2.1, by omega⟩, fun h => ⟨h.1, h.2.1, by omega⟩⟩
    simp only [hx, and_false, if_false, e]
def fg (s : QS) (r n : Nat) : QS := (fun j x => if (j = 14 ∨ j = 16) ∧ 5 * r ≤ x ∧ x < 5 * r + n then 0 else s.1 j x, s.2)
theorem fg_a (s : QS) (r n j x : Nat) : (fg s r n).1 j x = if (j = 14 ∨ j = 16) ∧ 5 * r ≤ x ∧ x < 5 * r + n then 0 else s.1 j x := rfl
theorem fg_0 (s : QS) (r : Nat) : fg s r 0 = s := by
  refine QS_ext (fun j x => ?_) rfl
  rw [fg_a, if_neg (by omega)]
theorem fg_s (s : QS) (r n : Nat) : qw (qw (fg s r n) 14 (5 * r + n) 0) 16 (5 * r + n) 0 = fg s r (n + 1) := by
  refine QS_ext (fun j x => ?_) rfl
  simp only [qw_a, fg_a]
  grind
def vz (s : QS) (r n : Nat) : QS := (fun j x => if (j = 10 ∨ j = 11) ∧ 5 * r ≤ x ∧ x < 5 * r + n then 0 else s.1 j x, s.2)
theorem vz_a (s : QS) (r n j x : Nat) : (vz s r n).1 j x = if (j = 10 ∨ j = 11) ∧ 5 * r ≤ x ∧ x < 5 * r + n then 0 else s.1 j x := rfl
theorem vz_0 (s : QS) (r : Nat) : vz s r 0 = s := by
  refine QS_ext (fun j x => ?_) rfl
  rw [vz_a, if_neg (by omega)]
theorem vz_s (s : QS) (r n : Nat) : qw (qw (vz s r n) 10 (5 * r + n) 0) 11 (5 * r + n) 0 = vz s r (n + 1) := by
  refine QS_ext (fun j x => ?_) rfl
  simp only [qw_a, vz_a]
  grind
def spt (s : QS) (m r n : Nat) : QS := (fun j x => if j = 27 ∧ 5 * m ≤ x ∧ x < 5 * m + n then s.1 10 (5 * r + (x - 5 * m)) else s.1 j x, s.2)
theorem spt_a (s : QS) (m r n j x : Nat) : (spt s m r n).1 j x = if j = 27 ∧ 5 * m ≤ x ∧ x < 5 * m + n then s.1 10 (5 * r + (x - 5 * m)) else s.1 j x := rfl
theorem spt_0 (s : QS) (m r : Nat) : spt s m r 0 = s := by
  refine QS_ext (fun j x => ?_) rfl
  rw [spt_a, if_neg (by omega)]
theorem spt_s (s : QS) (m r n : Nat) : qw (spt s m r n) 27 (5 * m + n) ((spt s m r n).1 10 (5 * r + n)) = spt s m r (n + 1) := by
  refine QS_ext (fun j x => ?_) rfl
  have e : (spt s m r n).1 10 (5 * r + n) = s.1 10 (5 * r + n) := by rw [spt_a, if_neg (by omega)]
  rw [e]
  simp only [qw_a, spt_a]
  grind
def hdr (s : QS) (m r d : Nat) (what : Int32) : QS := qw (qw (qw (qw (qw (qw s 21 m (nI r)) 22 m (nI d)) 23 m what) 24 m (s.1 7 r)) 25 m (s.1 8 r)) 26 m (s.1 9 r)
def q_send (s : QS) (r d : Nat) (what : Int32) (L T : Nat) : QS := ((cp (spt (hdr s (T % 64) r d what) (T % 64) r 5) r (5 + T % 64) L).1, nI T + 1, s.2.2)
def CelQ (s : QS) (row : Nat) : List Ent → Prop
  | [] => True
  | e :: es => s.1 3 (24 * row + es.length) = e.1 ∧ s.1 4 (24 * row + es.length) = e.2.1 ∧ s.1 5 (24 * row + es.length) = e.2.2 ∧ CelQ s row es
def RowQ (s : QS) (row : Nat) (es : List Ent) : Prop := s.1 2 row = nI es.length ∧ es.length ≤ 24 ∧ CelQ s row es
theorem CelQ.mv {a b : Nat} : ∀ {es : List Ent}, (∀ j k, 3 ≤ j → j ≤ 5 → k < es.length → s'.1 j (24 * b + k) = s.1 j (24 * a + k)) → CelQ s a es → CelQ s' b es
  | [], _, _ => trivial
  | e :: es, h, ⟨h1, h2, h3, h4⟩ => ⟨(h 3 es.length (by omega) (by omega) (by simp)).trans h1, (h 4 es.length (by omega) (by omega) (by simp)).trans h2, (h 5 es.length (by omega) (by omega) (by simp)).trans h3, CelQ.mv (fun j k a b c => h j k a b (by simp only [List.length_cons]; omega)) h4⟩
theorem RowQ.mv {a b : Nat} {es : List Ent} (h2 : s'.1 2 b = s.1 2 a) (h3 : ∀ j k, 3 ≤ j → j ≤ 5 → k < 24 → s'.1 j (24 * b + k) = s.1 j (24 * a + k)) (h : RowQ s a es) : RowQ s' b es :=
  ⟨h2.trans h.1, h.2.1, CelQ.mv (fun j k a b c => h3 j k a b (Nat.lt_of_lt_of_le c h.2.1)) h.2.2⟩
theorem RowQ.cpy {a b : Nat} {es : List Ent} (h : RowQ s a es) : RowQ (cp s a b es.length) b es := by
  refine ⟨?_, h.2.1, CelQ.mv (fun j k h1 h2 h3 => ?_) h.2.2⟩
  · rw [cp_a, if_pos ⟨rfl, rfl⟩]
    exact h.1
  · rw [cp_a, if_neg (by omega), if_pos (by omega), show 24 * a + (24 * b + k - 24 * b) = 24 * a + k by omega]
def VoQ (s : QS) (x t : Nat) : Option Msg → Prop
  | none => s.1 14 x = 0
  | some m => s.1 14 x = 1 ∧ s.1 15 x = mX m t
def ShQ (s : QS) (x t : Nat) : Option Msg → Prop
  | none => s.1 16 x = 0
  | some m => s.1 16 x = 1 ∧ s.1 17 x = mX m t ∧ s.1 18 x = mV m ∧ s.1 19 x = mL m ∧ s.1 20 x = mC m ∧ RowQ s (70 + x) (mG m)
def kepE (R : RS) : KM := if rS R = 2 then rR R else rE R
def RepQ (s : QS) (N i : Nat) (R : RS) : Prop := s.1 6 i = rS R ∧ s.1 7 i = rV R ∧ s.1 8 i = rL R ∧ s.1 9 i = rC R ∧ RowQ s i (rG R) ∧ (∀ t, t < N → s.1 10 (5 * i + t) = rX R t) ∧ (∀ t, t < N → s.1 11 (5 * i + t) = rA R t) ∧ s.1 12 i = rP R ∧ s.1 13 i = rN R ∧ (∀ t, t < N → VoQ s (5 * i + t) t (rO R t)) ∧ (∀ t, t < N → ShQ s (5 * i + t) t (kepE R t))
def MsgQ (s : QS) (N m : Nat) (M : Msg) : Prop := s.1 21 m = nI (mS M) ∧ s.1 23 m = mK M ∧ s.1 24 m = mV M ∧ s.1 25 m = mL M ∧ s.1 26 m = mC M ∧ (∀ t, t < N → s.1 27 (5 * m + t) = mX M t) ∧ RowQ s (5 + m) (mG M)
def Rel (N : Nat) (s : QS) (S : GS) (o : Option Msg) : Prop := s.2.1 = nI (gT S) ∧ s.2.2 = gL S ∧ (∀ c, c < 4 → s.1 30 c = gN S c ∧ s.1 31 c = gA S c) ∧ (∀ i, i < N → RepQ s N i (gR S i)) ∧
  (∀ k, k < gT S → gT S ≤ k + 64 → MsgQ s N (k % 64) (gM S k) ∧ s.1 22 (k % 64) = nI (mD (gM S k))) ∧ (∀ M, o = some M → MsgQ s N 64 M)
def inR (i j x : Nat) : Prop := (((6 ≤ j ∧ j ≤ 9) ∨ j = 12 ∨ j = 13) ∧ x = i) ∨ ((j = 10 ∨ j = 11 ∨ (14 ≤ j ∧ j ≤ 20)) ∧ 5 * i ≤ x ∧ x < 5 * i + 5) ∨ (j = 2 ∧ (x = i ∨ (70 + 5 * i ≤ x ∧ x < 75 + 5 * i))) ∨ ((3 ≤ j ∧ j ≤ 5) ∧ ((24 * i ≤ x ∧ x < 24 * i + 24) ∨ (24 * (70 + 5 * i) ≤ x ∧ x < 24 * (75 + 5 * i))))
def inM (m j x : Nat) : Prop := ((21 ≤ j ∧ j ≤ 26) ∧ x = m) ∨ (j = 27 ∧ 5 * m ≤ x ∧ x < 5 * m + 5) ∨ (j = 2 ∧ x = 5 + m) ∨ ((3 ≤ j ∧ j ≤ 5) ∧ 24 * (5 + m) ≤ x ∧ x < 24 * (5 + m) + 24)
theorem inR_M {i m j x : Nat} (hi : i < 5) (hm : m ≤ 64) (h : inR i j x) : ¬ inM m j x := by
  simp only [inR, inM] at *
  omega
theorem inR_R {i i' j x : Nat} (hi : i < 5) (hi' : i' < 5) (n : i ≠ i') (h : inR i j x) : ¬ inR i' j x := by
  simp only [inR] at *
  omega
theorem inM_M {m m' j x : Nat} (n : m ≠ m') (h : inM m j x) : ¬ inM m' j x := by
  simp only [inM] at *
  omega
theorem VoQ.cg {x t : Nat} {o : Option Msg} (h14 : s'.1 14 x = s.1 14 x) (h15 : s'.1 15 x = s.1 15 x) (h : VoQ s x t o) : VoQ s' x t o := by
  cases o with
  | none => exact h14.trans h
  | some m => exact ⟨h14.trans h.1, h15.trans h.2⟩
theorem ShQ.cg {x t : Nat} {o : Option Msg} (hj : ∀ j, 16 ≤ j → j ≤ 20 → s'.1 j x = s.1 j x) (hr : ∀ es, RowQ s (70 + x) es → RowQ s' (70 + x) es) (h : ShQ s x t o) : ShQ s' x t o := by
  cases o with
  | none => exact (hj 16 (by omega) (by omega)).trans h
  | some m => exact ⟨(hj 16 (by omega) (by omega)).trans h.1, (hj 17 (by omega) (by omega)).trans h.2.1, (hj 18 (by omega) (by omega)).trans h.2.2.1, (hj 19 (by omega) (by omega)).trans h.2.2.2.1, (hj 20 (by omega) (by omega)).trans h.2.2.2.2.1, hr _ h.2.2.2.2.2⟩
theorem RepQ.cg {i : Nat} {R : RS} (hN : N ≤ 5) (hs : ∀ j x, inR i j x → s'.1 j x = s.1 j x) (h : RepQ s N i R) : RepQ s' N i R := by
  obtain ⟨a1, a2, a3, a4, a5, a6, a7, a8, a9, a10, a11⟩ := h
  refine ⟨(hs 6 i (by unfold inR; omega)).trans a1, (hs 7 i (by unfold inR; omega)).trans a2, (hs 8 i (by unfold inR; omega)).trans a3, (hs 9 i (by unfold inR; omega)).trans a4, a5.mv (hs 2 i (by unfold inR; omega)) (fun j k h1 h2 h3 => hs j _ (by unfold inR; omega)),
    fun t ht => (hs 10 _ (by unfold inR; omega)).trans (a6 t ht), fun t ht => (hs 11 _ (by unfold inR; omega)).trans (a7 t ht), (hs 12 i (by unfold inR; omega)).trans a8, (hs 13 i (by unfold inR; omega)).trans a9,
    fun t ht => (a10 t ht).cg (hs 14 _ (by unfold inR; omega)) (hs 15 _ (by unfold inR; omega)), fun t ht => (a11 t ht).cg (fun j h1 h2 => hs j _ (by unfold inR; omega)) (fun es he => he.mv (hs 2 _ (by unfold inR; omega)) (fun j k h1 h2 h3 => hs j _ (by unfold inR; omega)))⟩
theorem MsgQ.cg {m : Nat} {M : Msg} (hN : N ≤ 5) (hs : ∀ j x, inM m j x → s'.1 j x = s.1 j x) (h : MsgQ s N m M) : MsgQ s' N m M := by
  obtain ⟨a1, a2, a3, a4, a5, a6, a7⟩ := h
  exact ⟨(hs 21 m (by unfold inM; omega)).trans a1, (hs 23 m (by unfold inM; omega)).trans a2, (hs 24 m (by unfold inM; omega)).trans a3, (hs 25 m (by unfold inM; omega)).trans a4, (hs 26 m (by unfold inM; omega)).trans a5, fun t ht => (hs 27 _ (by unfold inM; omega)).trans (a6 t ht), a7.mv (hs 2 _ (by unfold inM; omega)) (fun j k h1 h2 h3 => hs j _ (by unfold inM; omega))⟩
theorem Rel.rep {S : GS} {o : Option Msg} {i : Nat} {R : RS} (hN : N ≤ 5) (hi : i < N) (h : Rel N s S o) (h2 : s'.2 = s.2) (hs : ∀ j x, ¬ inR i j x → s'.1 j x = s.1 j x) (hR : RepQ s' N i R) : Rel N s' (g_rep S i R) o := by
  obtain ⟨a1, a2, a3, a4, a5, a6⟩ := h
  refine ⟨by rw [h2]; exact a1, by rw [h2]; exact a2, fun c hc => ?_, fun k hk => ?_, fun k hk hk2 => ?_, fun M hM => ?_⟩
  · rw [hs 30 c (by unfold inR; omega), hs 31 c (by unfold inR; omega)]
    exact a3 c hc
  · by_cases e : k = i
    · subst e
      show RepQ s' N k (va_up (gR S) k R k)
      rw [va_s]
      exact hR
    · show RepQ s' N k (va_up (gR S) i R k)
      rw [va_n e]
      exact (a4 k hk).cg hN (fun j x hx => hs j x (inR_R (by omega) (by omega) e hx))
  · obtain ⟨b1, b2⟩ := a5 k hk hk2
    have hm : k % 64 ≤ 64 := by omega
    exact ⟨b1.cg hN (fun j x hx => hs j x (fun q => inR_M (by omega) hm q hx)), (hs 22 _ (by unfold inR; omega)).trans b2⟩
  · exact (a6 M hM).cg hN (fun j x hx => hs j x (fun q => inR_M (by omega) (Nat.le_refl 64) q hx))
theorem hdr_a (s : QS) (m r d : Nat) (what : Int32) (j x : Nat) : (hdr s m r d what).1 j x = if x = m ∧ 21 ≤ j ∧ j ≤ 26 then (if j = 21 then nI r else if j = 22 then nI d else if j = 23 then what else if j = 24 then s.1 7 r else if j = 25 then s.1 8 r else s.1 9 r) else s.1 j x := by
  simp only [hdr, qw_a]
  grind
theorem q_send_o {r d L T j x : Nat} {what : Int32} (hL : L ≤ 24) (h : ¬ inM (T % 64) j x) : (q_send s r d what L T).1 j x = s.1 j x := by
  show (cp (spt (hdr s (T % 64) r d what) (T % 64) r 5) r (5 + T % 64) L).1 j x = s.1 j x
  simp only [inM] at h
  rw [cp_a, if_neg (by omega), if_neg (by omega), spt_a, if_neg (by omega), hdr_a, if_neg (by omega)]
theorem rel_send {S : GS} {o : Option Msg} {i d : Nat} {what : Int32} (hN : N ≤ 5) (hi : i < N) (h : Rel N s S o) : Rel N (q_send s i d what (rG (gR S i)).length (gT S)) (g_send S i what d) o := by
  obtain ⟨a1, a2, a3, a4, a5, a6⟩ := h
  have hL : (rG (gR S i)).length ≤ 24 := (a4 i hi).2.2.2.2.1.2.1
  have hm : gT S % 64 < 64 := by omega
  refine ⟨?_, a2, fun c hc => ?_, fun k hk => ?_, fun k hk hk2 => ?_, fun M hM => ?_⟩
  · show nI (gT S) + 1 = nI (gT S + 1)
    exact (nI_succ _).symm
  · rw [q_send_o hL (by unfold inM; omega), q_send_o hL (by unfold inM; omega)]
    exact a3 c hc
  · exact (a4 k hk).cg hN (fun j x hx => q_send_o hL (inR_M (by omega) (by omega) hx))
  · by_cases e : k = gT S
    · subst e
      show MsgQ _ N _ (va_up (gM S) (gT S) (mkM (gR S i) i what d) (gT S)) ∧ _ = nI (mD (va_up (gM S) (gT S) (mkM (gR S i) i what d) (gT S)))
      rw [va_s]
      obtain ⟨b1, b2, b3, b4, b5, b6, b7, b8, b9, b10, b11⟩ := a4 i hi
      have hd : ∀ j, 21 ≤ j → j ≤ 26 → (q_send s i d what (rG (gR S i)).length (gT S)).1 j (gT S % 64) = (hdr s (gT S % 64) i d what).1 j (gT S % 64) := fun j h1 h2 => by
        show (cp (spt (hdr s (gT S % 64) i d what) (gT S % 64) i 5) i (5 + gT S % 64) _).1 j _ = _
        rw [cp_a, if_neg (by omega), if_neg (by omega), spt_a, if_neg (by omega)]
      refine ⟨⟨?_, ?_, ?_, ?_, ?_, fun t ht => ?_, ?_⟩, ?_⟩
      · rw [hd 21 (by omega) (by omega), hdr_a, if_pos (by omega), if_pos rfl]; rfl
      · rw [hd 23 (by omega) (by omega), hdr_a, if_pos (by omega)]; rfl
      · rw [hd 24 (by omega) (by omega), hdr_a, if_pos (by omega)]; exact b2
      · rw [hd 25 (by omega) (by omega), hdr_a, if_pos (by omega)]; exact b3
      · rw [hd 26 (by omega) (by omega), hdr_a, if_pos (by omega)]; exact b4
      · show (cp (spt (hdr s (gT S % 64) i d what) (gT S % 64) i 5) i (5 + gT S % 64) (rG (gR S i)).length).1 27 _ = _
        rw [cp_a, if_neg (by omega), if_neg (by omega), spt_a, if_pos (by omega), hdr_a, if_neg (by omega), show 5 * i + (5 * (gT S % 64) + t - 5 * (gT S % 64)) = 5 * i + t by omega]
        exact b6 t ht
      · have hrow : RowQ (spt (hdr s (gT S % 64) i d what) (gT S % 64) i 5) i (rG (gR S i)) := b5.mv (by rw [spt_a, if_neg (by omega), hdr_a, if_neg (by omega)]) (fun j k h1 h2 h3 => by rw [spt_a, if_neg (by omega), hdr_a, if_neg (by omega)])
        exact RowQ.mv (s := cp (spt (hdr s (gT S % 64) i d what) (gT S % 64) i 5) i (5 + gT S % 64) (rG (gR S i)).length) rfl (fun j k h1 h2 h3 => rfl) (hrow.cpy (b := 5 + gT S % 64))
      · rw [hd 22 (by omega) (by omega), hdr_a, if_pos (by omega)]; rfl
    · have hk' : k < gT S := by
        have : k < gT S + 1 := hk
        omega
      have hk2' : gT S + 1 ≤ k + 64 := hk2
      show MsgQ _ N _ (va_up (gM S) (gT S) (mkM (gR S i) i what d) k) ∧ _ = nI (mD (va_up (gM S) (gT S) (mkM (gR S i) i what d) k))
      rw [va_n e]
      obtain ⟨b1, b2⟩ := a5 k hk' (by omega)
      have hne : k % 64 ≠ gT S % 64 := by omega
      exact ⟨b1.cg hN (fun j x hx => q_send_o hL (inM_M hne hx)), (q_send_o hL (by unfold inM; omega)).trans b2⟩
  · exact (a6 M hM).cg hN (fun j x hx => q_send_o hL (inM_M (by omega) hx))
end QREL
end
section
abbrev m_J_floorMod : MT := (⟨"java/lang/Math", "floorMod", "(II)I"⟩, prog_8_method_50_code, 3, (some FieldType.int), { frames := 0, cells := 0, slots := 0, locals := 0 })
theorem pf_J_floorMod : plainFor m_J_floorMod.1 = true := by decide +kernel
theorem d_J_floorMod_0 : decode prog_8_method_50_code 0 = .ok (.iload_n 0, 1) := by decide +kernel
theorem d_J_floorMod_1 : decode prog_8_method_50_code 1 = .ok (.iload_n 1, 1) := by decide +kernel
theorem d_J_floorMod_2 : decode prog_8_method_50_code 2 = .ok (.irem, 1) := by decide +kernel
theorem d_J_floorMod_3 : decode prog_8_method_50_code 3 = .ok (.istore_n 2, 1) := by decide +kernel
theorem d_J_floorMod_4 : decode prog_8_method_50_code 4 = .ok (.iload_n 0, 1) := by decide +kernel
theorem d_J_floorMod_5 : decode prog_8_method_50_code 5 = .ok (.iload_n 1, 1) := by decide +kernel
theorem d_J_floorMod_6 : decode prog_8_method_50_code 6 = .ok (.ixor, 1) := by decide +kernel
theorem d_J_floorMod_7 : decode prog_8_method_50_code 7 = .ok (.ifCond .ge 11, 3) := by decide +kernel
theorem d_J_floorMod_10 : decode prog_8_method_50_code 10 = .ok (.iload_n 2, 1) := by decide +kernel
theorem d_J_floorMod_11 : decode prog_8_method_50_code 11 = .ok (.ifCond .eq 7, 3) := by decide +kernel
theorem d_J_floorMod_14 : decode prog_8_method_50_code 14 = .ok (.iload_n 2, 1) := by decide +kernel
theorem d_J_floorMod_15 : decode prog_8_method_50_code 15 = .ok (.iload_n 1, 1) := by decide +kernel
theorem d_J_floorMod_16 : decode prog_8_method_50_code 16 = .ok (.iadd, 1) := by decide +kernel
theorem d_J_floorMod_17 : decode prog_8_method_50_code 17 = .ok (.ireturn, 1) := by decide +kernel
theorem d_J_floorMod_18 : decode prog_8_method_50_code 18 = .ok (.iload_n 2, 1) := by decide +kernel
theorem d_J_floorMod_19 : decode prog_8_method_50_code 19 = .ok (.ireturn, 1) := by decide +kernel
theorem b_J_floorMod_0 {l : Launch} {D : va_G} {cid : Nat → ClassId} {X : CT} {Post : PT} (hX : OK l D cid m_J_floorMod X Post) : SS l D cid m_J_floorMod X 0 [o_iload 0, o_iload 1, o_binz (fun x y => x - x / y * y), o_istore 2, o_iload 0, o_iload 1, o_bin (fun x y => x ^^^ y)] (t_if (fun x => 0 ≤ x) (FR l D cid m_J_floorMod X 18) (FR l D cid m_J_floorMod X 10)) := by
  refine SS.cons (so_iload_n hX d_J_floorMod_0 rfl) ?_
  refine SS.cons (so_iload_n hX d_J_floorMod_1 rfl) ?_
  refine SS.cons (so_irem hX d_J_floorMod_2) ?_
  refine SS.cons (so_istore_n hX d_J_floorMod_3 rfl (by decide)) ?_
  refine SS.cons (so_iload_n hX d_J_floorMod_4 rfl) ?_
  refine SS.cons (so_iload_n hX d_J_floorMod_5 rfl) ?_
  refine SS.cons (so_ixor hX d_J_floorMod_6) ?_
  exact st_if_ge hX d_J_floorMod_7 (by decide)
theorem b_J_floorMod_10 {l : Launch} {D : va_G} {cid : Nat → ClassId} {X : CT} {Post : PT} (hX : OK l D cid m_J_floorMod X Post) : SS l D cid m_J_floorMod X 10 [o_iload 2] (t_if (fun x => x = 0) (FR l D cid m_J_floorMod X 18) (FR l D cid m_J_floorMod X 14)) := by
  refine SS.cons (so_iload_n hX d_J_floorMod_10 rfl) ?_
  exact st_if_eq hX d_J_floorMod_11 (by decide)
theorem b_J_floorMod_14 {l : Launch} {D : va_G} {cid : Nat → ClassId} {X : CT} {Post : PT} (hX : OK l D cid m_J_floorMod X Post) : SS l D cid m_J_floorMod X 14 [o_iload 2, o_iload 1, o_bin (fun x y => x + y)] (t_iret Post) := by
  refine SS.cons (so_iload_n hX d_J_floorMod_14 rfl) ?_
  refine SS.cons (so_iload_n hX d_J_floorMod_15 rfl) ?_
  refine SS.cons (so_iadd hX d_J_floorMod_16) ?_
  exact st_iret hX d_J_floorMod_17 rfl
theorem b_J_floorMod_18 {l : Launch} {D : va_G} {cid : Nat → ClassId} {X : CT} {Post : PT} (hX : OK l D cid m_J_floorMod X Post) : SS l D cid m_J_floorMod X 18 [o_iload 2] (t_iret Post) := by
  refine SS.cons (so_iload_n hX d_J_floorMod_18 rfl) ?_
  exact st_iret hX d_J_floorMod_19 rfl
abbrev m_J_max : MT := (⟨"java/lang/Math", "max", "(II)I"⟩, prog_8_method_65_code, 2, (some FieldType.int), { frames := 0, cells := 0, slots := 0, locals := 0 })
theorem pf_J_max : plainFor m_J_max.1 = true := by decide +kernel
theorem d_J_max_0 : decode prog_8_method_65_code 0 = .ok (.iload_n 0, 1) := by decide +kernel
theorem d_J_max_1 : decode prog_8_method_65_code 1 = .ok (.iload_n 1, 1) := by decide +kernel
theorem d_J_max_2 : decode prog_8_method_65_code 2 = .ok (.if_icmp .lt 7, 3) := by decide +kernel
theorem d_J_max_5 : decode prog_8_method_65_code 5 = .ok (.iload_n 0, 1) := by decide +kernel
theorem d_J_max_6 : decode prog_8_method_65_code 6 = .ok (.goto 4, 3) := by decide +kernel
theorem d_J_max_9 : decode prog_8_method_65_code 9 = .ok (.iload_n 1, 1) := by decide +kernel
theorem d_J_max_10 : decode prog_8_method_65_code 10 = .ok (.ireturn, 1) := by decide +kernel
theorem b_J_max_0 {l : Launch} {D : va_G} {cid : Nat → ClassId} {X : CT} {Post : PT} (hX : OK l D cid m_J_max X Post) : SS l D cid m_J_max X 0 [o_iload 0, o_iload 1] (t_cmp (fun x y => x < y) (FR l D cid m_J_max X 9) (FR l D cid m_J_max X 5)) := by
  refine SS.cons (so_iload_n hX d_J_max_0 rfl) ?_
  refine SS.cons (so_iload_n hX d_J_max_1 rfl) ?_
  exact st_icmp_lt hX d_J_max_2 (by decide)
theorem b_J_max_5 {l : Launch} {D : va_G} {cid : Nat → ClassId} {X : CT} {Post : PT} (hX : OK l D cid m_J_max X Post) : SS l D cid m_J_max X 5 [o_iload 0] (FR l D cid m_J_max X 10) := by
  refine SS.cons (so_iload_n hX d_J_max_5 rfl) ?_
  exact so_goto hX d_J_max_6 (by decide)
theorem b_J_max_9 {l : Launch} {D : va_G} {cid : Nat → ClassId} {X : CT} {Post : PT} (hX : OK l D cid m_J_max X Post) : SS l D cid m_J_max X 9 [o_iload 1] (FR l D cid m_J_max X 10) := by
  refine SS.cons (so_iload_n hX d_J_max_9 rfl) ?_
  exact SS.fall
theorem b_J_max_10 {l : Launch} {D : va_G} {cid : Nat → ClassId} {X : CT} {Post : PT} (hX : OK l D cid m_J_max X Post) : SS l D cid m_J_max X 10 [] (t_iret Post) := by
  exact st_iret hX d_J_max_10 rfl
abbrev m_J_min : MT := (⟨"java/lang/Math", "min", "(II)I"⟩, prog_8_method_69_code, 2, (some FieldType.int), { frames := 0, cells := 0, slots := 0, locals := 0 })
theorem pf_J_min : plainFor m_J_min.1 = true := by decide +kernel
theorem d_J_min_0 : decode prog_8_method_69_code 0 = .ok (.iload_n 0, 1) := by decide +kernel
theorem d_J_min_1 : decode prog_8_method_69_code 1 = .ok (.iload_n 1, 1) := by decide +kernel
theorem d_J_min_2 : decode prog_8_method_69_code 2 = .ok (.if_icmp .gt 7, 3) := by decide +kernel
theorem d_J_min_5 : decode prog_8_method_69_code 5 = .ok (.iload_n 0, 1) := by decide +kernel
theorem d_J_min_6 : decode prog_8_method_69_code 6 = .ok (.goto 4, 3) := by decide +kernel
theorem d_J_min_9 : decode prog_8_method_69_code 9 = .ok (.iload_n 1, 1) := by decide +kernel
theorem d_J_min_10 : decode prog_8_method_69_code 10 = .ok (.ireturn, 1) := by decide +kernel
theorem b_J_min_0 {l : Launch} {D : va_G} {cid : Nat → ClassId} {X : CT} {Post : PT} (hX : OK l D cid m_J_min X Post) : SS l D cid m_J_min X 0 [o_iload 0, o_iload 1] (t_cmp (fun x y => y < x) (FR l D cid m_J_min X 9) (FR l D cid m_J_min X 5)) := by
  refine SS.cons (so_iload_n hX d_J_min_0 rfl) ?_
  refine SS.cons (so_iload_n hX d_J_min_1 rfl) ?_
  exact st_icmp_gt hX d_J_min_2 (by decide)
theorem b_J_min_5 {l : Launch} {D : va_G} {cid : Nat → ClassId} {X : CT} {Post : PT} (hX : OK l D cid m_J_min X Post) : SS l D cid m_J_min X 5 [o_iload 0] (FR l D cid m_J_min X 10) := by
  refine SS.cons (so_iload_n hX d_J_min_5 rfl) ?_
  exact so_goto hX d_J_min_6 (by decide)
theorem b_J_min_9 {l : Launch} {D : va_G} {cid : Nat → ClassId} {X : CT} {Post : PT} (hX : OK l D cid m_J_min X Post) : SS l D cid m_J_min X 9 [o_iload 1] (FR l D cid m_J_min X 10) := by
  refine SS.cons (so_iload_n hX d_J_min_9 rfl) ?_
  exact SS.fall
theorem b_J_min_10 {l : Launch} {D : va_G} {cid : Nat → ClassId} {X : CT} {Post : PT} (hX : OK l D cid m_J_min X Post) : SS l D cid m_J_min X 10 [] (t_iret Post) := by
  exact st_iret hX d_J_min_10 rfl
end
section
abbrev m_L_init : MT := (⟨"GroupLog$Log", "<init>", "()V"⟩, prog_2_method_1_code, 1, (none : Option FieldType), { frames := 1, cells := 0, slots := 0, locals := 20 })
theorem pf_L_init : plainFor m_L_init.1 = true := by decide +kernel
theorem d_L_init_0 : decode prog_2_method_1_code 0 = .ok (.aload_n 0, 1) := by decide +kernel
theorem d_L_init_1 : decode prog_2_method_1_code 1 = .ok (.invokespecial 1, 3) := by decide +kernel
theorem d_L_init_4 : decode prog_2_method_1_code 4 = .ok (.aload_n 0, 1) := by decide +kernel
theorem d_L_init_5 : decode prog_2_method_1_code 5 = .ok (.aconst_null, 1) := by decide +kernel
theorem d_L_init_6 : decode prog_2_method_1_code 6 = .ok (.putfield 7, 3) := by decide +kernel
theorem d_L_init_9 : decode prog_2_method_1_code 9 = .ok (.aload_n 0, 1) := by decide +kernel
theorem d_L_init_10 : decode prog_2_method_1_code 10 = .ok (.iconst 0, 1) := by decide +kernel
theorem d_L_init_11 : decode prog_2_method_1_code 11 = .ok (.putfield 13, 3) := by decide +kernel
theorem d_L_init_14 : decode prog_2_method_1_code 14 = .ok (.aload_n 0, 1) := by decide +kernel
theorem d_L_init_15 : decode prog_2_method_1_code 15 = .ok (.iconst 0, 1) := by decide +kernel
theorem d_L_init_16 : decode prog_2_method_1_code 16 = .ok (.putfield 17, 3) := by decide +kernel
theorem d_L_init_19 : decode prog_2_method_1_code 19 = .ok (.aload_n 0, 1) := by decide +kernel
theorem d_L_init_20 : decode prog_2_method_1_code 20 = .ok (.iconst 0, 1) := by decide +kernel
theorem d_L_init_21 : decode prog_2_method_1_code 21 = .ok (.putfield 20, 3) := by decide +kernel
theorem d_L_init_24 : decode prog_2_method_1_code 24 = .ok (.aload_n 0, 1) := by decide +kernel
theorem d_L_init_25 : decode prog_2_method_1_code 25 = .ok (.iconst 0, 1) := by decide +kernel
theorem d_L_init_26 : decode prog_2_method_1_code 26 = .ok (.putfield 23, 3) := by decide +kernel
theorem d_L_init_29 : decode prog_2_method_1_code 29 = .ok (.aload_n 0, 1) := by decide +kernel
theorem d_L_init_30 : decode prog_2_method_1_code 30 = .ok (.iconst 0, 1) := by decide +kernel
theorem d_L_init_31 : decode prog_2_method_1_code 31 = .ok (.putfield 26, 3) := by decide +kernel
theorem d_L_init_34 : decode prog_2_method_1_code 34 = .ok (.return_, 1) := by decide +kernel
theorem b_L_init_0 {l : Launch} {D : va_G} {cid : Nat → ClassId} {X : CT} {Post : PT} (hX : OK l D cid m_L_init X Post) : SS l D cid m_L_init X 0 [o_aload 0, o_obj, o_aload 0, o_push .null, o_put okR 0 0, o_aload 0, o_push (.int 0), o_put okI 0 1, o_aload 0, o_push (.int 0), o_put okI 0 2, o_aload 0, o_push (.int 0), o_put okI 0 3, o_aload 0, o_push (.int 0), o_put okI 0 4, o_aload 0, o_push (.int 0), o_put okI 0 5] (t_ret Post) := by
  refine SS.cons (so_aload_n hX d_L_init_0 rfl) ?_
  refine SS.cons (so_obj hX d_L_init_1 k_73 k_57 k_58 (by decide) (by decide)) ?_
  refine SS.cons (so_aload_n hX d_L_init_4 rfl) ?_
  refine SS.cons (so_null hX d_L_init_5) ?_
  refine SS.cons (so_putF (C := R_L) (T := T_L) (ok_O _) hX d_L_init_6 in_L ty_L nm_L rfl (by decide) k_74 rfl rfl rfl rfl) ?_
  refine SS.cons (so_aload_n hX d_L_init_9 rfl) ?_
  refine SS.cons (so_iconst hX d_L_init_10 (by decide)) ?_
  refine SS.cons (so_putF (C := R_L) (T := T_L) ok_I hX d_L_init_11 in_L ty_L nm_L rfl (by decide) k_75 rfl rfl rfl rfl) ?_
  refine SS.cons (so_aload_n hX d_L_init_14 rfl) ?_
  refine SS.cons (so_iconst hX d_L_init_15 (by decide)) ?_
  refine SS.cons (so_putF (C := R_L) (T := T_L) ok_I hX d_L_init_16 in_L ty_L nm_L rfl (by decide) k_78 rfl rfl rfl rfl) ?_
  refine SS.cons (so_aload_n hX d_L_init_19 rfl) ?_
  refine SS.cons (so_iconst hX d_L_init_20 (by decide)) ?_
  refine SS.cons (so_putF (C := R_L) (T := T_L) ok_I hX d_L_init_21 in_L ty_L nm_L rfl (by decide) k_80 rfl rfl rfl rfl) ?_
  refine SS.cons (so_aload_n hX d_L_init_24 rfl) ?_
  refine SS.cons (so_iconst hX d_L_init_25 (by decide)) ?_
  refine SS.cons (so_putF (C := R_L) (T := T_L) ok_I hX d_L_init_26 in_L ty_L nm_L rfl (by decide) k_82 rfl rfl rfl rfl) ?_
  refine SS.cons (so_aload_n hX d_L_init_29 rfl) ?_
  refine SS.cons (so_iconst hX d_L_init_30 (by decide)) ?_
  refine SS.cons (so_putF (C := R_L) (T := T_L) ok_I hX d_L_init_31 in_L ty_L nm_L rfl (by decide) k_84 rfl rfl rfl rfl) ?_
  exact st_ret hX d_L_init_34 rfl
abbrev m_L_init2 : MT := (⟨"GroupLog$Log", "<init>", "(LGroupLog$Log;III)V"⟩, prog_2_method_2_code, 5, (none : Option FieldType), { frames := 1, cells := 0, slots := 0, locals := 20 })
theorem pf_L_init2 : plainFor m_L_init2.1 = true := by decide +kernel
theorem d_L_init2_0 : decode prog_2_method_2_code 0 = .ok (.aload_n 0, 1) := by decide +kernel
theorem d_L_init2_1 : decode prog_2_method_2_code 1 = .ok (.invokespecial 1, 3) := by decide +kernel
theorem d_L_init2_4 : decode prog_2_method_2_code 4 = .ok (.aload_n 0, 1) := by decide +kernel
theorem d_L_init2_5 : decode prog_2_method_2_code 5 = .ok (.aload_n 1, 1) := by decide +kernel
theorem d_L_init2_6 : decode prog_2_method_2_code 6 = .ok (.putfield 7, 3) := by decide +kernel
theorem d_L_init2_9 : decode prog_2_method_2_code 9 = .ok (.aload_n 0, 1) := by decide +kernel
theorem d_L_init2_10 : decode prog_2_method_2_code 10 = .ok (.aload_n 1, 1) := by decide +kernel
theorem d_L_init2_11 : decode prog_2_method_2_code 11 = .ok (.getfield 13, 3) := by decide +kernel
theorem d_L_init2_14 : decode prog_2_method_2_code 14 = .ok (.iconst 1, 1) := by decide +kernel
theorem d_L_init2_15 : decode prog_2_method_2_code 15 = .ok (.iadd, 1) := by decide +kernel
theorem d_L_init2_16 : decode prog_2_method_2_code 16 = .ok (.putfield 13, 3) := by decide +kernel
theorem d_L_init2_19 : decode prog_2_method_2_code 19 = .ok (.aload_n 0, 1) := by decide +kernel
theorem d_L_init2_20 : decode prog_2_method_2_code 20 = .ok (.iload_n 2, 1) := by decide +kernel
theorem d_L_init2_21 : decode prog_2_method_2_code 21 = .ok (.putfield 17, 3) := by decide +kernel
theorem d_L_init2_24 : decode prog_2_method_2_code 24 = .ok (.aload_n 0, 1) := by decide +kernel
theorem d_L_init2_25 : decode prog_2_method_2_code 25 = .ok (.iload_n 3, 1) := by decide +kernel
theorem d_L_init2_26 : decode prog_2_method_2_code 26 = .ok (.putfield 20, 3) := by decide +kernel
theorem d_L_init2_29 : decode prog_2_method_2_code 29 = .ok (.aload_n 0, 1) := by decide +kernel
theorem d_L_init2_30 : decode prog_2_method_2_code 30 = .ok (.iload 4, 2) := by decide +kernel
theorem d_L_init2_32 : decode prog_2_method_2_code 32 = .ok (.putfield 23, 3) := by decide +kernel
theorem d_L_init2_35 : decode prog_2_method_2_code 35 = .ok (.aload_n 0, 1) := by decide +kernel
theorem d_L_init2_36 : decode prog_2_method_2_code 36 = .ok (.iconst 3, 1) := by decide +kernel
theorem d_L_init2_37 : decode prog_2_method_2_code 37 = .ok (.aload_n 1, 1) := by decide +kernel
theorem d_L_init2_38 : decode prog_2_method_2_code 38 = .ok (.getfield 26, 3) := by decide +kernel
theorem d_L_init2_41 : decode prog_2_method_2_code 41 = .ok (.imul, 1) := by decide +kernel
theorem d_L_init2_42 : decode prog_2_method_2_code 42 = .ok (.iload 4, 2) := by decide +kernel
theorem d_L_init2_44 : decode prog_2_method_2_code 44 = .ok (.iadd, 1) := by decide +kernel
theorem d_L_init2_45 : decode prog_2_method_2_code 45 = .ok (.iload_n 2, 1) := by decide +kernel
theorem d_L_init2_46 : decode prog_2_method_2_code 46 = .ok (.iadd, 1) := by decide +kernel
theorem d_L_init2_47 : decode prog_2_method_2_code 47 = .ok (.putfield 26, 3) := by decide +kernel
theorem d_L_init2_50 : decode prog_2_method_2_code 50 = .ok (.return_, 1) := by decide +kernel
theorem b_L_init2_0 {l : Launch} {D : va_G} {cid : Nat → ClassId} {X : CT} {Post : PT} (hX : OK l D cid m_L_init2 X Post) : SS l D cid m_L_init2 X 0 [o_aload 0, o_obj, o_aload 0, o_aload 1, o_put okR 0 0, o_aload 0, o_aload 1, o_getf 0 1, o_push (.int 1), o_bin (fun x y => x + y), o_put okI 0 1, o_aload 0, o_iload 2, o_put okI 0 2, o_aload 0, o_iload 3, o_put okI 0 3, o_aload 0, o_iload 4, o_put okI 0 4, o_aload 0, o_push (.int 3), o_aload 1, o_getf 0 5, o_bin (fun x y => x * y), o_iload 4, o_bin (fun x y => x + y), o_iload 2, o_bin (fun x y => x + y), o_put okI 0 5] (t_ret Post) := by
  refine SS.cons (so_aload_n hX d_L_init2_0 rfl) ?_
  refine SS.cons (so_obj hX d_L_init2_1 k_73 k_57 k_58 (by decide) (by decide)) ?_
  refine SS.cons (so_aload_n hX d_L_init2_4 rfl) ?_
  refine SS.cons (so_aload_n hX d_L_init2_5 rfl) ?_
  refine SS.cons (so_putF (C := R_L) (T := T_L) (ok_O _) hX d_L_init2_6 in_L ty_L nm_L rfl (by decide) k_74 rfl rfl rfl rfl) ?_
  refine SS.cons (so_aload_n hX d_L_init2_9 rfl) ?_
  refine SS.cons (so_aload_n hX d_L_init2_10 rfl) ?_
  refine SS.cons (so_getf (C := R_L) (T := T_L) hX d_L_init2_11 in_L rfl (by decide) k_75) ?_
  refine SS.cons (so_iconst hX d_L_init2_14 (by decide)) ?_
  refine SS.cons (so_iadd hX d_L_init2_15) ?_
  refine SS.cons (so_putF (C := R_L) (T := T_L) ok_I hX d_L_init2_16 in_L ty_L nm_L rfl (by decide) k_75 rfl rfl rfl rfl) ?_
  refine SS.cons (so_aload_n hX d_L_init2_19 rfl) ?_
  refine SS.cons (so_iload_n hX d_L_init2_20 rfl) ?_
  refine SS.cons (so_putF (C := R_L) (T := T_L) ok_I hX d_L_init2_21 in_L ty_L nm_L rfl (by decide) k_78 rfl rfl rfl rfl) ?_
  refine SS.cons (so_aload_n hX d_L_init2_24 rfl) ?_
  refine SS.cons (so_iload_n hX d_L_init2_25 rfl) ?_
  refine SS.cons (so_putF (C := R_L) (T := T_L) ok_I hX d_L_init2_26 in_L ty_L nm_L rfl (by decide) k_80 rfl rfl rfl rfl) ?_
  refine SS.cons (so_aload_n hX d_L_init2_29 rfl) ?_
  refine SS.cons (so_iload hX d_L_init2_30) ?_
  refine SS.cons (so_putF (C := R_L) (T := T_L) ok_I hX d_L_init2_32 in_L ty_L nm_L rfl (by decide) k_82 rfl rfl rfl rfl) ?_
  refine SS.cons (so_aload_n hX d_L_init2_35 rfl) ?_
  refine SS.cons (so_iconst hX d_L_init2_36 (by decide)) ?_
  refine SS.cons (so_aload_n hX d_L_init2_37 rfl) ?_
  refine SS.cons (so_getf (C := R_L) (T := T_L) hX d_L_init2_38 in_L rfl (by decide) k_84) ?_
  refine SS.cons (so_imul hX d_L_init2_41) ?_
  refine SS.cons (so_iload hX d_L_init2_42) ?_
  refine SS.cons (so_iadd hX d_L_init2_44) ?_
  refine SS.cons (so_iload_n hX d_L_init2_45 rfl) ?_
  refine SS.cons (so_iadd hX d_L_init2_46) ?_
  refine SS.cons (so_putF (C := R_L) (T := T_L) ok_I hX d_L_init2_47 in_L ty_L nm_L rfl (by decide) k_84 rfl rfl rfl rfl) ?_
  exact st_ret hX d_L_init2_50 rfl
abbrev m_L_firstEntries : MT := (⟨"GroupLog$Log", "firstEntries", "(I)LGroupLog$Log;"⟩, prog_2_method_3_code, 3, (some (FieldType.object "GroupLog$Log")), { frames := 0, cells := 0, slots := 0, locals := 0 })
theorem pf_L_firstEntries : plainFor m_L_firstEntries.1 = true := by decide +kernel
theorem d_L_firstEntries_0 : decode prog_2_method_3_code 0 = .ok (.aload_n 0, 1) := by decide +kernel
theorem d_L_firstEntries_1 : decode prog_2_method_3_code 1 = .ok (.astore_n 2, 1) := by decide +kernel
theorem d_L_firstEntries_2 : decode prog_2_method_3_code 2 = .ok (.aload_n 2, 1) := by decide +kernel
theorem d_L_firstEntries_3 : decode prog_2_method_3_code 3 = .ok (.getfield 7, 3) := by decide +kernel
theorem d_L_firstEntries_6 : decode prog_2_method_3_code 6 = .ok (.ifnull 19, 3) := by decide +kernel
theorem d_L_firstEntries_9 : decode prog_2_method_3_code 9 = .ok (.aload_n 2, 1) := by decide +kernel
theorem d_L_firstEntries_10 : decode prog_2_method_3_code 10 = .ok (.getfield 13, 3) := by decide +kernel
theorem d_L_firstEntries_13 : decode prog_2_method_3_code 13 = .ok (.iload_n 1, 1) := by decide +kernel
theorem d_L_firstEntries_14 : decode prog_2_method_3_code 14 = .ok (.if_icmp .le 11, 3) := by decide +kernel
theorem d_L_firstEntries_17 : decode prog_2_method_3_code 17 = .ok (.aload_n 2, 1) := by decide +kernel
theorem d_L_firstEntries_18 : decode prog_2_method_3_code 18 = .ok (.getfield 7, 3) := by decide +kernel
theorem d_L_firstEntries_21 : decode prog_2_method_3_code 21 = .ok (.astore_n 2, 1) := by decide +kernel
theorem d_L_firstEntries_22 : decode prog_2_method_3_code 22 = .ok (.goto (-20), 3) := by decide +kernel
theorem d_L_firstEntries_25 : decode prog_2_method_3_code 25 = .ok (.aload_n 2, 1) := by decide +kernel
theorem d_L_firstEntries_26 : decode prog_2_method_3_code 26 = .ok (.areturn, 1) := by decide +kernel
theorem b_L_firstEntries_0 {l : Launch} {D : va_G} {cid : Nat → ClassId} {X : CT} {Post : PT} (hX : OK l D cid m_L_firstEntries X Post) : SS l D cid m_L_firstEntries X 0 [o_aload 0, o_astore 2] (FR l D cid m_L_firstEntries X 2) := by
  refine SS.cons (so_aload_n hX d_L_firstEntries_0 rfl) ?_
  refine SS.cons (so_astore_n hX d_L_firstEntries_1 rfl (by decide)) ?_
  exact SS.fall
theorem b_L_firstEntries_2 {l : Launch} {D : va_G} {cid : Nat → ClassId} {X : CT} {Post : PT} (hX : OK l D cid m_L_firstEntries X Post) : SS l D cid m_L_firstEntries X 2 [o_aload 2, o_getf 0 0] (t_null (FR l D cid m_L_firstEntries X 25) (FR l D cid m_L_firstEntries X 9)) := by
  refine SS.cons (so_aload_n hX d_L_firstEntries_2 rfl) ?_
  refine SS.cons (so_getf (C := R_L) (T := T_L) hX d_L_firstEntries_3 in_L rfl (by decide) k_74) ?_
  exact st_ifnull hX d_L_firstEntries_6 (by decide)
theorem b_L_firstEntries_9 {l : Launch} {D : va_G} {cid : Nat → ClassId} {X : CT} {Post : PT} (hX : OK l D cid m_L_firstEntries X Post) : SS l D cid m_L_firstEntries X 9 [o_aload 2, o_getf 0 1, o_iload 1] (t_cmp (fun x y => x ≤ y) (FR l D cid m_L_firstEntries X 25) (FR l D cid m_L_firstEntries X 17)) := by
  refine SS.cons (so_aload_n hX d_L_firstEntries_9 rfl) ?_
  refine SS.cons (so_getf (C := R_L) (T := T_L) hX d_L_firstEntries_10 in_L rfl (by decide) k_75) ?_
  refine SS.cons (so_iload_n hX d_L_firstEntries_13 rfl) ?_
  exact st_icmp_le hX d_L_firstEntries_14 (by decide)
theorem b_L_firstEntries_17 {l : Launch} {D : va_G} {cid : Nat → ClassId} {X : CT} {Post : PT} (hX : OK l D cid m_L_firstEntries X Post) : SS l D cid m_L_firstEntries X 17 [o_aload 2, o_getf 0 0, o_astore 2] (FR l D cid m_L_firstEntries X 2) := by
  refine SS.cons (so_aload_n hX d_L_firstEntries_17 rfl) ?_
  refine SS.cons (so_getf (C := R_L) (T := T_L) hX d_L_firstEntries_18 in_L rfl (by decide) k_74) ?_
  refine SS.cons (so_astore_n hX d_L_firstEntries_21 rfl (by decide)) ?_
  exact so_goto hX d_L_firstEntries_22 (by decide)
theorem b_L_firstEntries_25 {l : Launch} {D : va_G} {cid : Nat → ClassId} {X : CT} {Post : PT} (hX : OK l D cid m_L_firstEntries X Post) : SS l D cid m_L_firstEntries X 25 [o_aload 2] (t_aret Post) := by
  refine SS.cons (so_aload_n hX d_L_firstEntries_25 rfl) ?_
  exact st_aret hX d_L_firstEntries_26 rfl
abbrev m_L_greatestNumber : MT := (⟨"GroupLog$Log", "greatestNumber", "(I)I"⟩, prog_2_method_4_code, 4, (some FieldType.int), { frames := 1, cells := 0, slots := 0, locals := 21 })
theorem pf_L_greatestNumber : plainFor m_L_greatestNumber.1 = true := by decide +kernel
theorem d_L_greatestNumber_0 : decode prog_2_method_4_code 0 = .ok (.iconst 0, 1) := by decide +kernel
theorem d_L_greatestNumber_1 : decode prog_2_method_4_code 1 = .ok (.istore_n 2, 1) := by decide +kernel
theorem d_L_greatestNumber_2 : decode prog_2_method_4_code 2 = .ok (.aload_n 0, 1) := by decide +kernel
theorem d_L_greatestNumber_3 : decode prog_2_method_4_code 3 = .ok (.astore_n 3, 1) := by decide +kernel
theorem d_L_greatestNumber_4 : decode prog_2_method_4_code 4 = .ok (.aload_n 3, 1) := by decide +kernel
theorem d_L_greatestNumber_5 : decode prog_2_method_4_code 5 = .ok (.ifnull 28, 3) := by decide +kernel
theorem d_L_greatestNumber_8 : decode prog_2_method_4_code 8 = .ok (.aload_n 3, 1) := by decide +kernel
theorem d_L_greatestNumber_9 : decode prog_2_method_4_code 9 = .ok (.getfield 17, 3) := by decide +kernel
theorem d_L_greatestNumber_12 : decode prog_2_method_4_code 12 = .ok (.iload_n 1, 1) := by decide +kernel
theorem d_L_greatestNumber_13 : decode prog_2_method_4_code 13 = .ok (.if_icmp .ne 12, 3) := by decide +kernel
theorem d_L_greatestNumber_16 : decode prog_2_method_4_code 16 = .ok (.iload_n 2, 1) := by decide +kernel
theorem d_L_greatestNumber_17 : decode prog_2_method_4_code 17 = .ok (.aload_n 3, 1) := by decide +kernel
theorem d_L_greatestNumber_18 : decode prog_2_method_4_code 18 = .ok (.getfield 20, 3) := by decide +kernel
theorem d_L_greatestNumber_21 : decode prog_2_method_4_code 21 = .ok (.invokestatic 29, 3) := by decide +kernel
theorem d_L_greatestNumber_24 : decode prog_2_method_4_code 24 = .ok (.istore_n 2, 1) := by decide +kernel
theorem d_L_greatestNumber_25 : decode prog_2_method_4_code 25 = .ok (.aload_n 3, 1) := by decide +kernel
theorem d_L_greatestNumber_26 : decode prog_2_method_4_code 26 = .ok (.getfield 7, 3) := by decide +kernel
theorem d_L_greatestNumber_29 : decode prog_2_method_4_code 29 = .ok (.astore_n 3, 1) := by decide +kernel
theorem d_L_greatestNumber_30 : decode prog_2_method_4_code 30 = .ok (.goto (-26), 3) := by decide +kernel
theorem d_L_greatestNumber_33 : decode prog_2_method_4_code 33 = .ok (.iload_n 2, 1) := by decide +kernel
theorem d_L_greatestNumber_34 : decode prog_2_method_4_code 34 = .ok (.ireturn, 1) := by decide +kernel
theorem b_L_greatestNumber_0 {l : Launch} {D : va_G} {cid : Nat → ClassId} {X : CT} {Post : PT} (hX : OK l D cid m_L_greatestNumber X Post) : SS l D cid m_L_greatestNumber X 0 [o_push (.int 0), o_istore 2, o_aload 0, o_astore 3] (FR l D cid m_L_greatestNumber X 4) := by
  refine SS.cons (so_iconst hX d_L_greatestNumber_0 (by decide)) ?_
  refine SS.cons (so_istore_n hX d_L_greatestNumber_1 rfl (by decide)) ?_
  refine SS.cons (so_aload_n hX d_L_greatestNumber_2 rfl) ?_
  refine SS.cons (so_astore_n hX d_L_greatestNumber_3 rfl (by decide)) ?_
  exact SS.fall
theorem b_L_greatestNumber_4 {l : Launch} {D : va_G} {cid : Nat → ClassId} {X : CT} {Post : PT} (hX : OK l D cid m_L_greatestNumber X Post) : SS l D cid m_L_greatestNumber X 4 [o_aload 3] (t_null (FR l D cid m_L_greatestNumber X 33) (FR l D cid m_L_greatestNumber X 8)) := by
  refine SS.cons (so_aload_n hX d_L_greatestNumber_4 rfl) ?_
  exact st_ifnull hX d_L_greatestNumber_5 (by decide)
theorem b_L_greatestNumber_8 {l : Launch} {D : va_G} {cid : Nat → ClassId} {X : CT} {Post : PT} (hX : OK l D cid m_L_greatestNumber X Post) : SS l D cid m_L_greatestNumber X 8 [o_aload 3, o_getf 0 2, o_iload 1] (t_cmp (fun x y => ¬ x = y) (FR l D cid m_L_greatestNumber X 25) (FR l D cid m_L_greatestNumber X 16)) := by
  refine SS.cons (so_aload_n hX d_L_greatestNumber_8 rfl) ?_
  refine SS.cons (so_getf (C := R_L) (T := T_L) hX d_L_greatestNumber_9 in_L rfl (by decide) k_78) ?_
  refine SS.cons (so_iload_n hX d_L_greatestNumber_12 rfl) ?_
  exact st_icmp_ne hX d_L_greatestNumber_13 (by decide)
theorem b_L_greatestNumber_16 {l : Launch} {D : va_G} {cid : Nat → ClassId} {X : CT} {Post : PT} (hX : OK l D cid m_L_greatestNumber X Post) : SS l D cid m_L_greatestNumber X 16 [o_iload 2, o_aload 3, o_getf 0 3, o_callS l D cid m_J_max 2, o_istore 2] (FR l D cid m_L_greatestNumber X 25) := by
  refine SS.cons (so_iload_n hX d_L_greatestNumber_16 rfl) ?_
  refine SS.cons (so_aload_n hX d_L_greatestNumber_17 rfl) ?_
  refine SS.cons (so_getf (C := R_L) (T := T_L) hX d_L_greatestNumber_18 in_L rfl (by decide) k_80) ?_
  refine SS.cons (so_callS (M' := m_J_max) hX d_L_greatestNumber_21 k_212 k_210 k_211 k_49 pf_J_max (by decide) (by decide +kernel) ⟨by decide, by decide⟩) ?_
  refine SS.cons (so_istore_n hX d_L_greatestNumber_24 rfl (by decide)) ?_
  exact SS.fall
theorem b_L_greatestNumber_25 {l : Launch} {D : va_G} {cid : Nat → ClassId} {X : CT} {Post : PT} (hX : OK l D cid m_L_greatestNumber X Post) : SS l D cid m_L_greatestNumber X 25 [o_aload 3, o_getf 0 0, o_astore 3] (FR l D cid m_L_greatestNumber X 4) := by
  refine SS.cons (so_aload_n hX d_L_greatestNumber_25 rfl) ?_
  refine SS.cons (so_getf (C := R_L) (T := T_L) hX d_L_greatestNumber_26 in_L rfl (by decide) k_74) ?_
  refine SS.cons (so_astore_n hX d_L_greatestNumber_29 rfl (by decide)) ?_
  exact so_goto hX d_L_greatestNumber_30 (by decide)
theorem b_L_greatestNumber_33 {l : Launch} {D : va_G} {cid : Nat → ClassId} {X : CT} {Post : PT} (hX : OK l D cid m_L_greatestNumber X Post) : SS l D cid m_L_greatestNumber X 33 [o_iload 2] (t_iret Post) := by
  refine SS.cons (so_iload_n hX d_L_greatestNumber_33 rfl) ?_
  exact st_iret hX d_L_greatestNumber_34 rfl
abbrev m_L_find : MT := (⟨"GroupLog$Log", "find", "(II)LGroupLog$Log;"⟩, prog_2_method_5_code, 4, (some (FieldType.object "GroupLog$Log")), { frames := 0, cells := 0, slots := 0, locals := 0 })
theorem pf_L_find : plainFor m_L_find.1 = true := by decide +kernel
theorem d_L_find_0 : decode prog_2_method_5_code 0 = .ok (.aload_n 0, 1) := by decide +kernel
theorem d_L_find_1 : decode prog_2_method_5_code 1 = .ok (.astore_n 3, 1) := by decide +kernel
theorem d_L_find_2 : decode prog_2_method_5_code 2 = .ok (.aload_n 3, 1) := by decide +kernel
theorem d_L_find_3 : decode prog_2_method_5_code 3 = .ok (.ifnull 29, 3) := by decide +kernel
theorem d_L_find_6 : decode prog_2_method_5_code 6 = .ok (.aload_n 3, 1) := by decide +kernel
theorem d_L_find_7 : decode prog_2_method_5_code 7 = .ok (.getfield 17, 3) := by decide +kernel
theorem d_L_find_10 : decode prog_2_method_5_code 10 = .ok (.iload_n 1, 1) := by decide +kernel
theorem d_L_find_11 : decode prog_2_method_5_code 11 = .ok (.if_icmp .ne 13, 3) := by decide +kernel
theorem d_L_find_14 : decode prog_2_method_5_code 14 = .ok (.aload_n 3, 1) := by decide +kernel
theorem d_L_find_15 : decode prog_2_method_5_code 15 = .ok (.getfield 20, 3) := by decide +kernel
theorem d_L_find_18 : decode prog_2_method_5_code 18 = .ok (.iload_n 2, 1) := by decide +kernel
theorem d_L_find_19 : decode prog_2_method_5_code 19 = .ok (.if_icmp .ne 5, 3) := by decide +kernel
theorem d_L_find_22 : decode prog_2_method_5_code 22 = .ok (.aload_n 3, 1) := by decide +kernel
theorem d_L_find_23 : decode prog_2_method_5_code 23 = .ok (.areturn, 1) := by decide +kernel
theorem d_L_find_24 : decode prog_2_method_5_code 24 = .ok (.aload_n 3, 1) := by decide +kernel
theorem d_L_find_25 : decode prog_2_method_5_code 25 = .ok (.getfield 7, 3) := by decide +kernel
theorem d_L_find_28 : decode prog_2_method_5_code 28 = .ok (.astore_n 3, 1) := by decide +kernel
theorem d_L_find_29 : decode prog_2_method_5_code 29 = .ok (.goto (-27), 3) := by decide +kernel
theorem d_L_find_32 : decode prog_2_method_5_code 32 = .ok (.aconst_null, 1) := by decide +kernel
theorem d_L_find_33 : decode prog_2_method_5_code 33 = .ok (.areturn, 1) := by decide +kernel
theorem b_L_find_0 {l : Launch} {D : va_G} {cid : Nat → ClassId} {X : CT} {Post : PT} (hX : OK l D cid m_L_find X Post) : SS l D cid m_L_find X 0 [o_aload 0, o_astore 3] (FR l D cid m_L_find X 2) := by
  refine SS.cons (so_aload_n hX d_L_find_0 rfl) ?_
  refine SS.cons (so_astore_n hX d_L_find_1 rfl (by decide)) ?_
  exact SS.fall
theorem b_L_find_2 {l : Launch} {D : va_G} {cid : Nat → ClassId} {X : CT} {Post : PT} (hX : OK l D cid m_L_find X Post) : SS l D cid m_L_find X 2 [o_aload 3] (t_null (FR l D cid m_L_find X 32) (FR l D cid m_L_find X 6)) := by
  refine SS.cons (so_aload_n hX d_L_find_2 rfl) ?_
  exact st_ifnull hX d_L_find_3 (by decide)
theorem b_L_find_6 {l : Launch} {D : va_G} {cid : Nat → ClassId} {X : CT} {Post : PT} (hX : OK l D cid m_L_find X Post) : SS l D cid m_L_find X 6 [o_aload 3, o_getf 0 2, o_iload 1] (t_cmp (fun x y => ¬ x = y) (FR l D cid m_L_find X 24) (FR l D cid m_L_find X 14)) := by
  refine SS.cons (so_aload_n hX d_L_find_6 rfl) ?_
  refine SS.cons (so_getf (C := R_L) (T := T_L) hX d_L_find_7 in_L rfl (by decide) k_78) ?_
  refine SS.cons (so_iload_n hX d_L_find_10 rfl) ?_
  exact st_icmp_ne hX d_L_find_11 (by decide)
theorem b_L_find_14 {l : Launch} {D : va_G} {cid : Nat → ClassId} {X : CT} {Post : PT} (hX : OK l D cid m_L_find X Post) : SS l D cid m_L_find X 14 [o_aload 3, o_getf 0 3, o_iload 2] (t_cmp (fun x y => ¬ x = y) (FR l D cid m_L_find X 24) (FR l D cid m_L_find X 22)) := by
  refine SS.cons (so_aload_n hX d_L_find_14 rfl) ?_
  refine SS.cons (so_getf (C := R_L) (T := T_L) hX d_L_find_15 in_L rfl (by decide) k_80) ?_
  refine SS.cons (so_iload_n hX d_L_find_18 rfl) ?_
  exact st_icmp_ne hX d_L_find_19 (by decide)
theorem b_L_find_22 {l : Launch} {D : va_G} {cid : Nat → ClassId} {X : CT} {Post : PT} (hX : OK l D cid m_L_find X Post) : SS l D cid m_L_find X 22 [o_aload 3] (t_aret Post) := by
  refine SS.cons (so_aload_n hX d_L_find_22 rfl) ?_
  exact st_aret hX d_L_find_23 rfl
theorem b_L_find_24 {l : Launch} {D : va_G} {cid : Nat → ClassId} {X : CT} {Post : PT} (hX : OK l D cid m_L_find X Post) : SS l D cid m_L_find X 24 [o_aload 3, o_getf 0 0, o_astore 3] (FR l D cid m_L_find X 2) := by
  refine SS.cons (so_aload_n hX d_L_find_24 rfl) ?_
  refine SS.cons (so_getf (C := R_L) (T := T_L) hX d_L_find_25 in_L rfl (by decide) k_74) ?_
  refine SS.cons (so_astore_n hX d_L_find_28 rfl (by decide)) ?_
  exact so_goto hX d_L_find_29 (by decide)
theorem b_L_find_32 {l : Launch} {D : va_G} {cid : Nat → ClassId} {X : CT} {Post : PT} (hX : OK l D cid m_L_find X Post) : SS l D cid m_L_find X 32 [o_push .null] (t_aret Post) := by
  refine SS.cons (so_null hX d_L_find_32) ?_
  exact st_aret hX d_L_find_33 rfl
end
section
section SPJL
variable {l : Launch} {D : va_G} {cid : Nat → ClassId} {Z : Nat → Prop} {f : HF}
theorem sp_max {x y : Int32} : CS l D cid m_J_max [.int x, .int y] f (fun v f' => v = some (.int (mx x y)) ∧ f' = f) := by
  intro X hX
  refine b_J_max_0 hX _ _ _ _ _ (i_iload rfl <| i_iload rfl <| i_cmp ?_ ?_)
  · intro h
    refine b_J_max_9 hX _ _ _ _ _ (i_iload rfl <| i_end ?_)
    refine b_J_max_10 hX _ _ _ _ _ (i_iret ?_)
    exact ⟨by rw [mx, if_pos h], rfl⟩
  · intro h
    refine b_J_max_5 hX _ _ _ _ _ (i_iload rfl <| i_end ?_)
    refine b_J_max_10 hX _ _ _ _ _ (i_iret ?_)
    exact ⟨by rw [mx, if_neg h], rfl⟩
theorem sp_min {x y : Int32} : CS l D cid m_J_min [.int x, .int y] f (fun v f' => v = some (.int (mn x y)) ∧ f' = f) := by
  intro X hX
  refine b_J_min_0 hX _ _ _ _ _ (i_iload rfl <| i_iload rfl <| i_cmp ?_ ?_)
  · intro h
    refine b_J_min_9 hX _ _ _ _ _ (i_iload rfl <| i_end ?_)
    refine b_J_min_10 hX _ _ _ _ _ (i_iret ?_)
    exact ⟨by rw [mn, if_pos h], rfl⟩
  · intro h
    refine b_J_min_5 hX _ _ _ _ _ (i_iload rfl <| i_end ?_)
    refine b_J_min_10 hX _ _ _ _ _ (i_iret ?_)
    exact ⟨by rw [mn, if_neg h], rfl⟩
theorem sp_floorMod {x y : Int32} (hy : ¬ y = 0) : CS l D cid m_J_floorMod [.int x, .int y] f (fun v f' => v = some (.int (fmod x y)) ∧ f' = f) := by
  intro X hX
  refine b_J_floorMod_0 hX _ _ _ _ _ (i_iload rfl <| i_iload rfl <| i_binz hy <| i_istore <| i_iload rfl <| i_iload rfl <| i_bin <| i_if ?_ ?_)
  · intro h
    refine b_J_floorMod_18 hX _ _ _ _ _ (i_iload rfl <| i_iret ?_)
    exact ⟨by rw [fmod, if_neg (fun q => Int32.not_le.mpr q.1 h)], rfl⟩
  · intro h
    refine b_J_floorMod_10 hX _ _ _ _ _ (i_iload rfl <| i_if ?_ ?_)
    · intro h0
      refine b_J_floorMod_18 hX _ _ _ _ _ (i_iload rfl <| i_iret ?_)
      exact ⟨by rw [fmod, if_neg (fun q => q.2 h0)], rfl⟩
    · intro h0
      refine b_J_floorMod_14 hX _ _ _ _ _ (i_iload rfl <| i_iload rfl <| i_bin <| i_iret ?_)
      exact ⟨by rw [fmod, if_pos ⟨Int32.not_le.mp h, h0⟩], rfl⟩
theorem sp_L_init {a : Nat} (hf : f a = some (.inl (0, df_L))) : CS l D cid m_L_init [.ref a] f (fun v f' => v = none ∧ f' = hup f a (.inl (0, [.null, .int 0, .int 0, .int 0, .int 0, .int 0]))) := by
  intro X hX
  refine b_L_init_0 hX _ _ _ _ _ (i_aload rfl <| i_obj <| i_aload rfl <| i_push <| i_putR hf rfl <| i_aload rfl <| i_push <| i_putI (hup_s _ _ _) rfl <| i_aload rfl <| i_push <| i_putI (hup_s _ _ _) rfl <| i_aload rfl <| i_push <| i_putI (hup_s _ _ _) rfl <| i_aload rfl <| i_push <| i_putI (hup_s _ _ _) rfl <| i_aload rfl <| i_push <| i_putI (hup_s _ _ _) rfl <| i_ret ?_)
  exact ⟨rfl, by simp only [hup_hup]; rfl⟩
theorem sp_L_init2 {a b : Nat} {c n v : Int32} {es : List Ent} (hf : f a = some (.inl (0, df_L))) (hne : b ≠ a) (h : LogR Z f es b) :
    CS l D cid m_L_init2 [.ref a, .ref b, .int c, .int n, .int v] f (fun w f' => w = none ∧ f' = hup f a (.inl (0, [.ref b, .int (nI (es.length + 1)), .int c, .int n, .int v, .int (tot ((c, n, v) :: es))]))) := by
  intro X hX
  obtain ⟨b', hb⟩ := h.cell
  refine b_L_init2_0 hX _ _ _ _ _ (i_aload rfl <| i_obj <| i_aload rfl <| i_aload rfl <| i_putR hf rfl <| i_aload rfl <| i_aload rfl <| i_getf ((hup_n hne).trans hb) rfl <| i_push <| i_bin <| i_putI (hup_s _ _ _) rfl <| i_aload rfl <| i_iload rfl <| i_putI (hup_s _ _ _) rfl <| i_aload rfl <| i_iload rfl <| i_putI (hup_s _ _ _) rfl <| i_aload rfl <| i_iload rfl <| i_putI (hup_s _ _ _) rfl <| i_aload rfl <| i_push <| i_aload rfl <| i_getf ((hup_n hne).trans ((hup_n hne).trans ((hup_n hne).trans ((hup_n hne).trans ((hup_n hne).trans hb))))) rfl <| i_bin <| i_iload rfl <| i_bin <| i_iload rfl <| i_bin <| i_putI (hup_s _ _ _) rfl <| i_ret ?_)
  refine ⟨rfl, ?_⟩
  simp only [hup_hup]
  rw [nI_succ]
  rfl
theorem sp_firstEntries {a : Nat} {c : Int32} {es : List Ent} {f0 : HF} (hF : ∀ a c, ¬ Z a → f0 a = some c → f a = some c) (h : LogR Z f0 es a) : CS l D cid m_L_firstEntries [.ref a, .int c] f (fun v f' => f' = f ∧ ∃ b, v = some (.ref b) ∧ LogR Z f0 (fse es c) b) := by
  intro X hX
  have loop : ∀ (es' : List Ent) (b : Nat), LogR Z f0 es' b → fse es' c = fse es c → ∀ bc bs, FR l D cid m_L_firstEntries X 2 [some (.ref a), some (.int c), some (.ref b)] [] f bc bs := by
    intro es'
    induction es' with
    | nil =>
      intro b hb he bc bs
      have hb2 := hF _ _ hb.1 hb.2
      refine b_L_firstEntries_2 hX _ _ _ _ _ (i_aload rfl <| i_getf hb2 rfl <| i_null_n ?_)
      refine b_L_firstEntries_25 hX _ _ _ _ _ (i_aload rfl <| i_aret ?_)
      exact ⟨rfl, b, rfl, by rw [← he]; exact hb⟩
    | cons e es' ih =>
      intro b hb he bc bs
      obtain ⟨hz, hl, hc, b', h1', h2⟩ := id hb
      have h1 := hF _ _ hz h1'
      refine b_L_firstEntries_2 hX _ _ _ _ _ (i_aload rfl <| i_getf h1 rfl <| i_null_r ?_)
      refine b_L_firstEntries_9 hX _ _ _ _ _ (i_aload rfl <| i_getf h1 rfl <| i_iload rfl <| i_cmp ?_ ?_)
      · intro hle
        refine b_L_firstEntries_25 hX _ _ _ _ _ (i_aload rfl <| i_aret ?_)
        refine ⟨rfl, b, rfl, ?_⟩
        rw [← he, fse, if_neg (Int32.not_lt.mpr hle)]
        exact hb
      · intro hgt
        refine b_L_firstEntries_17 hX _ _ _ _ _ (i_aload rfl <| i_getf h1 rfl <| i_astore <| i_end ?_)
        refine ih b' h2 ?_ _ _
        rw [← he, fse, if_pos (Int32.not_le.mp hgt)]
  refine b_L_firstEntries_0 hX _ _ _ _ _ (i_aload rfl <| i_astore <| i_end ?_)
  exact loop es a h rfl _ _
theorem sp_greatestNumber {a : Nat} {w : Int32} {es : List Ent} {f0 : HF} (hF : ∀ a c, ¬ Z a → f0 a = some c → f a = some c) (h : LogR Z f0 es a) : CS l D cid m_L_greatestNumber [.ref a, .int w] f (fun v f' => v = some (.int (gno es w 0)) ∧ f' = f) := by
  intro X hX
  have loop : ∀ (es' : List Ent) (b : Nat) (g : Int32), LogR Z f0 es' b → gno es' w g = gno es w 0 → ∀ bc bs, FR l D cid m_L_greatestNumber X 4 [some (.ref a), some (.int w), some (.int g), some (.ref b)] [] f bc bs := by
    intro es'
    induction es' with
    | nil =>
      intro b g hb he bc bs
      have hb2 := hF _ _ hb.1 hb.2
      have fin : ∀ g' : Int32, g' = gno es w 0 → ∀ bc bs, FR l D cid m_L_greatestNumber X 25 [some (.ref a), some (.int w), some (.int g'), some (.ref b)] [] f bc bs := by
        intro g' hg bc bs
        refine b_L_greatestNumber_25 hX _ _ _ _ _ (i_aload rfl <| i_getf hb2 rfl <| i_astore <| i_end ?_)
        refine b_L_greatestNumber_4 hX _ _ _ _ _ (i_aload rfl <| i_null_n ?_)
        refine b_L_greatestNumber_33 hX _ _ _ _ _ (i_iload rfl <| i_iret ?_)
        exact ⟨by rw [hg], rfl⟩
      refine b_L_greatestNumber_4 hX _ _ _ _ _ (i_aload rfl <| i_null_r ?_)
      refine b_L_greatestNumber_8 hX _ _ _ _ _ (i_aload rfl <| i_getf hb2 rfl <| i_iload rfl <| i_cmp ?_ ?_)
      · intro hne
        refine fin g ?_ _ _
        rw [← he, gno, if_neg hne]
      · intro heq
        refine b_L_greatestNumber_16 hX _ _ _ _ _ (i_iload rfl <| i_aload rfl <| i_getf hb2 rfl <| j_rdS (sp_max) rfl rfl <| i_istore <| i_end ?_)
        refine fin _ ?_ _ _
        rw [← he, gno, if_pos (Classical.not_not.mp heq)]
    | cons e es' ih =>
      intro b g hb he bc bs
      obtain ⟨hz, hl, hc, b', h1', h2⟩ := id hb
      have h1 := hF _ _ hz h1'
      refine b_L_greatestNumber_4 hX _ _ _ _ _ (i_aload rfl <| i_null_r ?_)
      refine b_L_greatestNumber_8 hX _ _ _ _ _ (i_aload rfl <| i_getf h1 rfl <| i_iload rfl <| i_cmp ?_ ?_)
      · intro hne
        refine b_L_greatestNumber_25 hX _ _ _ _ _ (i_aload rfl <| i_getf h1 rfl <| i_astore <| i_end ?_)
        refine ih b' g h2 ?_ _ _
        rw [← he, gno, if_neg hne]
      · intro heq
        refine b_L_greatestNumber_16 hX _ _ _ _ _ (i_iload rfl <| i_aload rfl <| i_getf h1 rfl <| j_rdS (sp_max) rfl rfl <| i_istore <| i_end ?_)
        refine b_L_greatestNumber_25 hX _ _ _ _ _ (i_aload rfl <| i_getf h1 rfl <| i_astore <| i_end ?_)
        refine ih b' _ h2 ?_ _ _
        rw [← he, gno, if_pos (Classical.not_not.mp heq)]
  refine b_L_greatestNumber_0 hX _ _ _ _ _ (i_push <| i_istore <| i_aload rfl <| i_astore <| i_end ?_)
  exact loop es a 0 h rfl _ _
theorem sp_find {a : Nat} {c n : Int32} {es : List Ent} {f0 : HF} (hF : ∀ a c, ¬ Z a → f0 a = some c → f a = some c) (h : LogR Z f0 es a) : CS l D cid m_L_find [.ref a, .int c, .int n] f (fun v f' => f' = f ∧ ((fnd es c n = none ∧ v = some .null) ∨ ∃ es' b, fnd es c n = some es' ∧ v = some (.ref b) ∧ LogR Z f0 es' b)) := by
  intro X hX
  have loop : ∀ (es' : List Ent) (b : Nat), LogR Z f0 es' b → fnd es' c n = fnd es c n → ∀ bc bs, FR l D cid m_L_find X 2 [some (.ref a), some (.int c), some (.int n), some (.ref b)] [] f bc bs := by
    intro es'
    induction es' with
    | nil =>
      intro b hb he bc bs
      have hb2 := hF _ _ hb.1 hb.2
      have fin : fnd es c n = none → ∀ bc bs, FR l D cid m_L_find X 24 [some (.ref a), some (.int c), some (.int n), some (.ref b)] [] f bc bs := by
        intro hn bc bs
        refine b_L_find_24 hX _ _ _ _ _ (i_aload rfl <| i_getf hb2 rfl <| i_astore <| i_end ?_)
        refine b_L_find_2 hX _ _ _ _ _ (i_aload rfl <| i_null_n ?_)
        refine b_L_find_32 hX _ _ _ _ _ (i_push <| i_aret ?_)
        exact ⟨rfl, Or.inl ⟨hn, rfl⟩⟩
      refine b_L_find_2 hX _ _ _ _ _ (i_aload rfl <| i_null_r ?_)
      refine b_L_find_6 hX _ _ _ _ _ (i_aload rfl <| i_getf hb2 rfl <| i_iload rfl <| i_cmp ?_ ?_)
      · intro hne
        refine fin ?_ _ _
        rw [← he, fnd, if_neg (fun q => hne q.1)]
      · intro heq
        refine b_L_find_14 hX _ _ _ _ _ (i_aload rfl <| i_getf hb2 rfl <| i_iload rfl <| i_cmp ?_ ?_)
        · intro hne
          refine fin ?_ _ _
          rw [← he, fnd, if_neg (fun q => hne q.2)]
        · intro heq2
          refine b_L_find_22 hX _ _ _ _ _ (i_aload rfl <| i_aret ?_)
          refine ⟨rfl, Or.inr ⟨[], b, ?_, rfl, hb⟩⟩
          rw [← he, fnd, if_pos ⟨Classical.not_not.mp heq, Classical.not_not.mp heq2⟩]
    | cons e es' ih =>
      intro b hb he bc bs
      obtain ⟨hz, hl, hc, b', h1', h2⟩ := id hb
      have h1 := hF _ _ hz h1'
      refine b_L_find_2 hX _ _ _ _ _ (i_aload rfl <| i_null_r ?_)
      refine b_L_find_6 hX _ _ _ _ _ (i_aload rfl <| i_getf h1 rfl <| i_iload rfl <| i_cmp ?_ ?_)
      · intro hne
        refine b_L_find_24 hX _ _ _ _ _ (i_aload rfl <| i_getf h1 rfl <| i_astore <| i_end ?_)
        refine ih b' h2 ?_ _ _
        rw [← he, fnd, if_neg (fun q => hne q.1)]
      · intro heq
        refine b_L_find_14 hX _ _ _ _ _ (i_aload rfl <| i_getf h1 rfl <| i_iload rfl <| i_cmp ?_ ?_)
        · intro hne
          refine b_L_find_24 hX _ _ _ _ _ (i_aload rfl <| i_getf h1 rfl <| i_astore <| i_end ?_)
          refine ih b' h2 ?_ _ _
          rw [← he, fnd, if_neg (fun q => hne q.2)]
        · intro heq2
          refine b_L_find_22 hX _ _ _ _ _ (i_aload rfl <| i_aret ?_)
          refine ⟨rfl, Or.inr ⟨e :: es', b, ?_, rfl, hb⟩⟩
          rw [← he, fnd, if_pos ⟨Classical.not_not.mp heq, Classical.not_not.mp heq2⟩]
  refine b_L_find_0 hX _ _ _ _ _ (i_aload rfl <| i_astore <| i_end ?_)
  exact loop es a h rfl _ _
end SPJL
end
section
abbrev m_E_init : MT := (⟨"GroupLog$Message", "<init>", "(LGroupLog$Replica;II)V"⟩, prog_3_method_1_code, 4, (none : Option FieldType), { frames := 1, cells := 0, slots := 0, locals := 20 })
theorem pf_E_init : plainFor m_E_init.1 = true := by decide +kernel
theorem d_E_init_0 : decode prog_3_method_1_code 0 = .ok (.aload_n 0, 1) := by decide +kernel
theorem d_E_init_1 : decode prog_3_method_1_code 1 = .ok (.invokespecial 1, 3) := by decide +kernel
theorem d_E_init_4 : decode prog_3_method_1_code 4 = .ok (.aload_n 0, 1) := by decide +kernel
theorem d_E_init_5 : decode prog_3_method_1_code 5 = .ok (.iload_n 2, 1) := by decide +kernel
theorem d_E_init_6 : decode prog_3_method_1_code 6 = .ok (.putfield 7, 3) := by decide +kernel
theorem d_E_init_9 : decode prog_3_method_1_code 9 = .ok (.aload_n 0, 1) := by decide +kernel
theorem d_E_init_10 : decode prog_3_method_1_code 10 = .ok (.aload_n 1, 1) := by decide +kernel
theorem d_E_init_11 : decode prog_3_method_1_code 11 = .ok (.getfield 13, 3) := by decide +kernel
theorem d_E_init_14 : decode prog_3_method_1_code 14 = .ok (.putfield 18, 3) := by decide +kernel
theorem d_E_init_17 : decode prog_3_method_1_code 17 = .ok (.aload_n 0, 1) := by decide +kernel
theorem d_E_init_18 : decode prog_3_method_1_code 18 = .ok (.iload_n 3, 1) := by decide +kernel
theorem d_E_init_19 : decode prog_3_method_1_code 19 = .ok (.putfield 21, 3) := by decide +kernel
theorem d_E_init_22 : decode prog_3_method_1_code 22 = .ok (.aload_n 0, 1) := by decide +kernel
theorem d_E_init_23 : decode prog_3_method_1_code 23 = .ok (.aload_n 1, 1) := by decide +kernel
theorem d_E_init_24 : decode prog_3_method_1_code 24 = .ok (.getfield 24, 3) := by decide +kernel
theorem d_E_init_27 : decode prog_3_method_1_code 27 = .ok (.putfield 27, 3) := by decide +kernel
theorem d_E_init_30 : decode prog_3_method_1_code 30 = .ok (.aload_n 0, 1) := by decide +kernel
theorem d_E_init_31 : decode prog_3_method_1_code 31 = .ok (.aload_n 1, 1) := by decide +kernel
theorem d_E_init_32 : decode prog_3_method_1_code 32 = .ok (.getfield 28, 3) := by decide +kernel
theorem d_E_init_35 : decode prog_3_method_1_code 35 = .ok (.putfield 31, 3) := by decide +kernel
theorem d_E_init_38 : decode prog_3_method_1_code 38 = .ok (.aload_n 0, 1) := by decide +kernel
theorem d_E_init_39 : decode prog_3_method_1_code 39 = .ok (.aload_n 1, 1) := by decide +kernel
theorem d_E_init_40 : decode prog_3_method_1_code 40 = .ok (.getfield 32, 3) := by decide +kernel
theorem d_E_init_43 : decode prog_3_method_1_code 43 = .ok (.putfield 36, 3) := by decide +kernel
theorem d_E_init_46 : decode prog_3_method_1_code 46 = .ok (.aload_n 0, 1) := by decide +kernel
theorem d_E_init_47 : decode prog_3_method_1_code 47 = .ok (.aload_n 1, 1) := by decide +kernel
theorem d_E_init_48 : decode prog_3_method_1_code 48 = .ok (.getfield 37, 3) := by decide +kernel
theorem d_E_init_51 : decode prog_3_method_1_code 51 = .ok (.putfield 41, 3) := by decide +kernel
theorem d_E_init_54 : decode prog_3_method_1_code 54 = .ok (.aload_n 0, 1) := by decide +kernel
theorem d_E_init_55 : decode prog_3_method_1_code 55 = .ok (.aload_n 1, 1) := by decide +kernel
theorem d_E_init_56 : decode prog_3_method_1_code 56 = .ok (.getfield 42, 3) := by decide +kernel
theorem d_E_init_59 : decode prog_3_method_1_code 59 = .ok (.putfield 45, 3) := by decide +kernel
theorem d_E_init_62 : decode prog_3_method_1_code 62 = .ok (.return_, 1) := by decide +kernel
theorem b_E_init_0 {l : Launch} {D : va_G} {cid : Nat → ClassId} {X : CT} {Post : PT} (hX : OK l D cid m_E_init X Post) : SS l D cid m_E_init X 0 [o_aload 0, o_obj, o_aload 0, o_iload 2, o_put okI 1 0, o_aload 0, o_aload 1, o_getf 2 0, o_put okI 1 1, o_aload 0, o_iload 3, o_put okI 1 2, o_aload 0, o_aload 1, o_getf 2 2, o_put okI 1 3, o_aload 0, o_aload 1, o_getf 2 3, o_put okI 1 4, o_aload 0, o_aload 1, o_getf 2 6, o_put okR 1 5, o_aload 0, o_aload 1, o_getf 2 4, o_put okR 1 6, o_aload 0, o_aload 1, o_getf 2 5, o_put okI 1 7] (t_ret Post) := by
  refine SS.cons (so_aload_n hX d_E_init_0 rfl) ?_
  refine SS.cons (so_obj hX d_E_init_1 k_241 k_57 k_58 (by decide) (by decide)) ?_
  refine SS.cons (so_aload_n hX d_E_init_4 rfl) ?_
  refine SS.cons (so_iload_n hX d_E_init_5 rfl) ?_
  refine SS.cons (so_putF (C := R_E) (T := T_E) ok_I hX d_E_init_6 in_E ty_E nm_E rfl (by decide) k_242 rfl rfl rfl rfl) ?_
  refine SS.cons (so_aload_n hX d_E_init_9 rfl) ?_
  refine SS.cons (so_aload_n hX d_E_init_10 rfl) ?_
  refine SS.cons (so_getf (C := R_P) (T := T_P) hX d_E_init_11 in_P rfl (by decide) k_101) ?_
  refine SS.cons (so_putF (C := R_E) (T := T_E) ok_I hX d_E_init_14 in_E ty_E nm_E rfl (by decide) k_244 rfl rfl rfl rfl) ?_
  refine SS.cons (so_aload_n hX d_E_init_17 rfl) ?_
  refine SS.cons (so_iload_n hX d_E_init_18 rfl) ?_
  refine SS.cons (so_putF (C := R_E) (T := T_E) ok_I hX d_E_init_19 in_E ty_E nm_E rfl (by decide) k_246 rfl rfl rfl rfl) ?_
  refine SS.cons (so_aload_n hX d_E_init_22 rfl) ?_
  refine SS.cons (so_aload_n hX d_E_init_23 rfl) ?_
  refine SS.cons (so_getf (C := R_P) (T := T_P) hX d_E_init_24 in_P rfl (by decide) k_107) ?_
  refine SS.cons (so_putF (C := R_E) (T := T_E) ok_I hX d_E_init_27 in_E ty_E nm_E rfl (by decide) k_248 rfl rfl rfl rfl) ?_
  refine SS.cons (so_aload_n hX d_E_init_30 rfl) ?_
  refine SS.cons (so_aload_n hX d_E_init_31 rfl) ?_
  refine SS.cons (so_getf (C := R_P) (T := T_P) hX d_E_init_32 in_P rfl (by decide) k_110) ?_
  refine SS.cons (so_putF (C := R_E) (T := T_E) ok_I hX d_E_init_35 in_E ty_E nm_E rfl (by decide) k_251 rfl rfl rfl rfl) ?_
  refine SS.cons (so_aload_n hX d_E_init_38 rfl) ?_
  refine SS.cons (so_aload_n hX d_E_init_39 rfl) ?_
  refine SS.cons (so_getf (C := R_P) (T := T_P) hX d_E_init_40 in_P rfl (by decide) k_117) ?_
  refine SS.cons (so_putF (C := R_E) (T := T_E) (ok_A _) hX d_E_init_43 in_E ty_E nm_E rfl (by decide) k_253 rfl rfl rfl rfl) ?_
  refine SS.cons (so_aload_n hX d_E_init_46 rfl) ?_
  refine SS.cons (so_aload_n hX d_E_init_47 rfl) ?_
  refine SS.cons (so_getf (C := R_P) (T := T_P) hX d_E_init_48 in_P rfl (by decide) k_112) ?_
  refine SS.cons (so_putF (C := R_E) (T := T_E) (ok_O _) hX d_E_init_51 in_E ty_E nm_E rfl (by decide) k_256 rfl rfl rfl rfl) ?_
  refine SS.cons (so_aload_n hX d_E_init_54 rfl) ?_
  refine SS.cons (so_aload_n hX d_E_init_55 rfl) ?_
  refine SS.cons (so_getf (C := R_P) (T := T_P) hX d_E_init_56 in_P rfl (by decide) k_115) ?_
  refine SS.cons (so_putF (C := R_E) (T := T_E) ok_I hX d_E_init_59 in_E ty_E nm_E rfl (by decide) k_259 rfl rfl rfl rfl) ?_
  exact st_ret hX d_E_init_62 rfl
end
section
abbrev m_P_init : MT := (⟨"GroupLog$Replica", "<init>", "(II)V"⟩, prog_4_method_1_code, 3, (none : Option FieldType), { frames := 2, cells := 6, slots := 326, locals := 40 })
theorem pf_P_init : plainFor m_P_init.1 = true := by decide +kernel
theorem d_P_init_0 : decode prog_4_method_1_code 0 = .ok (.aload_n 0, 1) := by decide +kernel
theorem d_P_init_1 : decode prog_4_method_1_code 1 = .ok (.invokespecial 3, 3) := by decide +kernel
theorem d_P_init_4 : decode prog_4_method_1_code 4 = .ok (.aload_n 0, 1) := by decide +kernel
theorem d_P_init_5 : decode prog_4_method_1_code 5 = .ok (.iconst 0, 1) := by decide +kernel
theorem d_P_init_6 : decode prog_4_method_1_code 6 = .ok (.putfield 9, 3) := by decide +kernel
theorem d_P_init_9 : decode prog_4_method_1_code 9 = .ok (.aload_n 0, 1) := by decide +kernel
theorem d_P_init_10 : decode prog_4_method_1_code 10 = .ok (.iconst 0, 1) := by decide +kernel
theorem d_P_init_11 : decode prog_4_method_1_code 11 = .ok (.putfield 15, 3) := by decide +kernel
theorem d_P_init_14 : decode prog_4_method_1_code 14 = .ok (.aload_n 0, 1) := by decide +kernel
theorem d_P_init_15 : decode prog_4_method_1_code 15 = .ok (.iconst 0, 1) := by decide +kernel
theorem d_P_init_16 : decode prog_4_method_1_code 16 = .ok (.putfield 18, 3) := by decide +kernel
theorem d_P_init_19 : decode prog_4_method_1_code 19 = .ok (.aload_n 0, 1) := by decide +kernel
theorem d_P_init_20 : decode prog_4_method_1_code 20 = .ok (.new 21, 3) := by decide +kernel
theorem d_P_init_23 : decode prog_4_method_1_code 23 = .ok (.dup, 1) := by decide +kernel
theorem d_P_init_24 : decode prog_4_method_1_code 24 = .ok (.invokespecial 23, 3) := by decide +kernel
theorem d_P_init_27 : decode prog_4_method_1_code 27 = .ok (.putfield 24, 3) := by decide +kernel
theorem d_P_init_30 : decode prog_4_method_1_code 30 = .ok (.aload_n 0, 1) := by decide +kernel
theorem d_P_init_31 : decode prog_4_method_1_code 31 = .ok (.iconst 0, 1) := by decide +kernel
theorem d_P_init_32 : decode prog_4_method_1_code 32 = .ok (.putfield 28, 3) := by decide +kernel
theorem d_P_init_35 : decode prog_4_method_1_code 35 = .ok (.aload_n 0, 1) := by decide +kernel
theorem d_P_init_36 : decode prog_4_method_1_code 36 = .ok (.iconst 0, 1) := by decide +kernel
theorem d_P_init_37 : decode prog_4_method_1_code 37 = .ok (.putfield 31, 3) := by decide +kernel
theorem d_P_init_40 : decode prog_4_method_1_code 40 = .ok (.aload_n 0, 1) := by decide +kernel
theorem d_P_init_41 : decode prog_4_method_1_code 41 = .ok (.iconst 0, 1) := by decide +kernel
theorem d_P_init_42 : decode prog_4_method_1_code 42 = .ok (.putfield 35, 3) := by decide +kernel
theorem d_P_init_45 : decode prog_4_method_1_code 45 = .ok (.aload_n 0, 1) := by decide +kernel
theorem d_P_init_46 : decode prog_4_method_1_code 46 = .ok (.iload_n 1, 1) := by decide +kernel
theorem d_P_init_47 : decode prog_4_method_1_code 47 = .ok (.putfield 38, 3) := by decide +kernel
theorem d_P_init_50 : decode prog_4_method_1_code 50 = .ok (.aload_n 0, 1) := by decide +kernel
theorem d_P_init_51 : decode prog_4_method_1_code 51 = .ok (.iload_n 2, 1) := by decide +kernel
theorem d_P_init_52 : decode prog_4_method_1_code 52 = .ok (.newarray .int, 2) := by decide +kernel
theorem d_P_init_54 : decode prog_4_method_1_code 54 = .ok (.putfield 41, 3) := by decide +kernel
theorem d_P_init_57 : decode prog_4_method_1_code 57 = .ok (.aload_n 0, 1) := by decide +kernel
theorem d_P_init_58 : decode prog_4_method_1_code 58 = .ok (.iload_n 2, 1) := by decide +kernel
theorem d_P_init_59 : decode prog_4_method_1_code 59 = .ok (.newarray .int, 2) := by decide +kernel
theorem d_P_init_61 : decode prog_4_method_1_code 61 = .ok (.putfield 45, 3) := by decide +kernel
theorem d_P_init_64 : decode prog_4_method_1_code 64 = .ok (.aload_n 0, 1) := by decide +kernel
theorem d_P_init_65 : decode prog_4_method_1_code 65 = .ok (.iload_n 2, 1) := by decide +kernel
theorem d_P_init_66 : decode prog_4_method_1_code 66 = .ok (.anewarray 48, 3) := by decide +kernel
theorem d_P_init_69 : decode prog_4_method_1_code 69 = .ok (.putfield 50, 3) := by decide +kernel
theorem d_P_init_72 : decode prog_4_method_1_code 72 = .ok (.aload_n 0, 1) := by decide +kernel
theorem d_P_init_73 : decode prog_4_method_1_code 73 = .ok (.iload_n 2, 1) := by decide +kernel
theorem d_P_init_74 : decode prog_4_method_1_code 74 = .ok (.anewarray 48, 3) := by decide +kernel
theorem d_P_init_77 : decode prog_4_method_1_code 77 = .ok (.putfield 54, 3) := by decide +kernel
theorem d_P_init_80 : decode prog_4_method_1_code 80 = .ok (.aload_n 0, 1) := by decide +kernel
theorem d_P_init_81 : decode prog_4_method_1_code 81 = .ok (.iload_n 2, 1) := by decide +kernel
theorem d_P_init_82 : decode prog_4_method_1_code 82 = .ok (.anewarray 48, 3) := by decide +kernel
theorem d_P_init_85 : decode prog_4_method_1_code 85 = .ok (.putfield 57, 3) := by decide +kernel
theorem d_P_init_88 : decode prog_4_method_1_code 88 = .ok (.return_, 1) := by decide +kernel
theorem b_P_init_0 {l : Launch} {D : va_G} {cid : Nat → ClassId} {X : CT} {Post : PT} (hX : OK l D cid m_P_init X Post) : SS l D cid m_P_init X 0 [o_aload 0, o_obj, o_aload 0, o_push (.int 0), o_put okI 2 1, o_aload 0, o_push (.int 0), o_put okI 2 2, o_aload 0, o_push (.int 0), o_put okI 2 3, o_aload 0, o_new 0 6 df_L, o_dup, o_callI l D cid m_L_init 0, o_put okR 2 4, o_aload 0, o_push (.int 0), o_put okI 2 5, o_aload 0, o_push (.int 0), o_put okZ 2 8, o_aload 0, o_push (.int 0), o_put okI 2 12, o_aload 0, o_iload 1, o_put okI 2 0, o_aload 0, o_iload 2, o_newI 0, o_put okR 2 6, o_aload 0, o_iload 2, o_newI 0, o_put okR 2 7, o_aload 0, o_iload 2, o_newQ 2, o_put okR 2 9, o_aload 0, o_iload 2, o_newQ 2, o_put okR 2 10, o_aload 0, o_iload 2, o_newQ 2, o_put okR 2 11] (t_ret Post) := by
  refine SS.cons (so_aload_n hX d_P_init_0 rfl) ?_
  refine SS.cons (so_obj hX d_P_init_1 k_67 k_57 k_58 (by decide) (by decide)) ?_
  refine SS.cons (so_aload_n hX d_P_init_4 rfl) ?_
  refine SS.cons (so_iconst hX d_P_init_5 (by decide)) ?_
  refine SS.cons (so_put (C := R_P) (T := T_P) ok_I hX d_P_init_6 in_P ty_P nm_P rfl (by decide) k_104 rfl rfl) ?_
  refine SS.cons (so_aload_n hX d_P_init_9 rfl) ?_
  refine SS.cons (so_iconst hX d_P_init_10 (by decide)) ?_
  refine SS.cons (so_put (C := R_P) (T := T_P) ok_I hX d_P_init_11 in_P ty_P nm_P rfl (by decide) k_106 rfl rfl) ?_
  refine SS.cons (so_aload_n hX d_P_init_14 rfl) ?_
  refine SS.cons (so_iconst hX d_P_init_15 (by decide)) ?_
  refine SS.cons (so_put (C := R_P) (T := T_P) ok_I hX d_P_init_16 in_P ty_P nm_P rfl (by decide) k_109 rfl rfl) ?_
  refine SS.cons (so_aload_n hX d_P_init_19 rfl) ?_
  refine SS.cons (so_new (C := R_L) (T := T_L) hX d_P_init_20 in_L ty_L k_68 k_69 k_47 rfl dv_L) ?_
  refine SS.cons (so_dup hX d_P_init_23) ?_
  refine SS.cons (so_callI (M' := m_L_init) hX d_P_init_24 k_72 rfl k_70 k_71 k_47 rfl pf_L_init (by decide) (by decide +kernel) ⟨by decide, by decide⟩) ?_
  refine SS.cons (so_put (C := R_P) (T := T_P) (ok_O _) hX d_P_init_27 in_P ty_P nm_P rfl (by decide) k_111 rfl rfl) ?_
  refine SS.cons (so_aload_n hX d_P_init_30 rfl) ?_
  refine SS.cons (so_iconst hX d_P_init_31 (by decide)) ?_
  refine SS.cons (so_put (C := R_P) (T := T_P) ok_I hX d_P_init_32 in_P ty_P nm_P rfl (by decide) k_114 rfl rfl) ?_
  refine SS.cons (so_aload_n hX d_P_init_35 rfl) ?_
  refine SS.cons (so_iconst hX d_P_init_36 (by decide)) ?_
  refine SS.cons (so_put (C := R_P) (T := T_P) ok_Z hX d_P_init_37 in_P ty_P nm_P rfl (by decide) k_122 rfl rfl) ?_
  refine SS.cons (so_aload_n hX d_P_init_40 rfl) ?_
  refine SS.cons (so_iconst hX d_P_init_41 (by decide)) ?_
  refine SS.cons (so_put (C := R_P) (T := T_P) ok_I hX d_P_init_42 in_P ty_P nm_P rfl (by decide) k_130 rfl rfl) ?_
  refine SS.cons (so_aload_n hX d_P_init_45 rfl) ?_
  refine SS.cons (so_iload_n hX d_P_init_46 rfl) ?_
  refine SS.cons (so_putF (C := R_P) (T := T_P) ok_I hX d_P_init_47 in_P ty_P nm_P rfl (by decide) k_102 rfl rfl rfl rfl) ?_
  refine SS.cons (so_aload_n hX d_P_init_50 rfl) ?_
  refine SS.cons (so_iload_n hX d_P_init_51 rfl) ?_
  refine SS.cons (so_newI hX d_P_init_52 rfl k_99 rfl (by decide) nw_0) ?_
  refine SS.cons (so_put (C := R_P) (T := T_P) (ok_A _) hX d_P_init_54 in_P ty_P nm_P rfl (by decide) k_118 rfl rfl) ?_
  refine SS.cons (so_aload_n hX d_P_init_57 rfl) ?_
  refine SS.cons (so_iload_n hX d_P_init_58 rfl) ?_
  refine SS.cons (so_newI hX d_P_init_59 rfl k_99 rfl (by decide) nw_0) ?_
  refine SS.cons (so_putF (C := R_P) (T := T_P) (ok_A _) hX d_P_init_61 in_P ty_P nm_P rfl (by decide) k_120 rfl rfl rfl rfl) ?_
  refine SS.cons (so_aload_n hX d_P_init_64 rfl) ?_
  refine SS.cons (so_iload_n hX d_P_init_65 rfl) ?_
  refine SS.cons (so_newQ hX d_P_init_66 k_100 hX.2.2.2.2.2.2.2.2.1.1 rfl) ?_
  refine SS.cons (so_putF (C := R_P) (T := T_P) (ok_A _) hX d_P_init_69 in_P ty_P nm_P rfl (by decide) k_124 rfl rfl rfl rfl) ?_
  refine SS.cons (so_aload_n hX d_P_init_72 rfl) ?_
  refine SS.cons (so_iload_n hX d_P_init_73 rfl) ?_
  refine SS.cons (so_newQ hX d_P_init_74 k_100 hX.2.2.2.2.2.2.2.2.1.1 rfl) ?_
  refine SS.cons (so_putF (C := R_P) (T := T_P) (ok_A _) hX d_P_init_77 in_P ty_P nm_P rfl (by decide) k_126 rfl rfl rfl rfl) ?_
  refine SS.cons (so_aload_n hX d_P_init_80 rfl) ?_
  refine SS.cons (so_iload_n hX d_P_init_81 rfl) ?_
  refine SS.cons (so_newQ hX d_P_init_82 k_100 hX.2.2.2.2.2.2.2.2.1.1 rfl) ?_
  refine SS.cons (so_putF (C := R_P) (T := T_P) (ok_A _) hX d_P_init_85 in_P ty_P nm_P rfl (by decide) k_128 rfl rfl rfl rfl) ?_
  exact st_ret hX d_P_init_88 rfl
abbrev m_P_count : MT := (⟨"GroupLog$Replica", "count", "([LGroupLog$Message;)I"⟩, prog_4_method_2_code, 3, (some FieldType.int), { frames := 0, cells := 0, slots := 0, locals := 0 })
theorem pf_P_count : plainFor m_P_count.1 = true := by decide +kernel
theorem d_P_count_0 : decode prog_4_method_2_code 0 = .ok (.iconst 0, 1) := by decide +kernel
theorem d_P_count_1 : decode prog_4_method_2_code 1 = .ok (.istore_n 1, 1) := by decide +kernel
theorem d_P_count_2 : decode prog_4_method_2_code 2 = .ok (.iconst 0, 1) := by decide +kernel
theorem d_P_count_3 : decode prog_4_method_2_code 3 = .ok (.istore_n 2, 1) := by decide +kernel
theorem d_P_count_4 : decode prog_4_method_2_code 4 = .ok (.iload_n 2, 1) := by decide +kernel
theorem d_P_count_5 : decode prog_4_method_2_code 5 = .ok (.aload_n 0, 1) := by decide +kernel
theorem d_P_count_6 : decode prog_4_method_2_code 6 = .ok (.arraylength, 1) := by decide +kernel
theorem d_P_count_7 : decode prog_4_method_2_code 7 = .ok (.if_icmp .ge 18, 3) := by decide +kernel
theorem d_P_count_10 : decode prog_4_method_2_code 10 = .ok (.aload_n 0, 1) := by decide +kernel
theorem d_P_count_11 : decode prog_4_method_2_code 11 = .ok (.iload_n 2, 1) := by decide +kernel
theorem d_P_count_12 : decode prog_4_method_2_code 12 = .ok (.aaload, 1) := by decide +kernel
theorem d_P_count_13 : decode prog_4_method_2_code 13 = .ok (.ifnull 6, 3) := by decide +kernel
theorem d_P_count_16 : decode prog_4_method_2_code 16 = .ok (.iinc 1 1, 3) := by decide +kernel
theorem d_P_count_19 : decode prog_4_method_2_code 19 = .ok (.iinc 2 1, 3) := by decide +kernel
theorem d_P_count_22 : decode prog_4_method_2_code 22 = .ok (.goto (-18), 3) := by decide +kernel
theorem d_P_count_25 : decode prog_4_method_2_code 25 = .ok (.iload_n 1, 1) := by decide +kernel
theorem d_P_count_26 : decode prog_4_method_2_code 26 = .ok (.ireturn, 1) := by decide +kernel
theorem b_P_count_0 {l : Launch} {D : va_G} {cid : Nat → ClassId} {X : CT} {Post : PT} (hX : OK l D cid m_P_count X Post) : SS l D cid m_P_count X 0 [o_push (.int 0), o_istore 1, o_push (.int 0), o_istore 2] (FR l D cid m_P_count X 4) := by
  refine SS.cons (so_iconst hX d_P_count_0 (by decide)) ?_
  refine SS.cons (so_istore_n hX d_P_count_1 rfl (by decide)) ?_
  refine SS.cons (so_iconst hX d_P_count_2 (by decide)) ?_
  refine SS.cons (so_istore_n hX d_P_count_3 rfl (by decide)) ?_
  exact SS.fall
theorem b_P_count_4 {l : Launch} {D : va_G} {cid : Nat → ClassId} {X : CT} {Post : PT} (hX : OK l D cid m_P_count X Post) : SS l D cid m_P_count X 4 [o_iload 2, o_aload 0, o_alenq 2] (t_cmp (fun x y => y ≤ x) (FR l D cid m_P_count X 25) (FR l D cid m_P_count X 10)) := by
  refine SS.cons (so_iload_n hX d_P_count_4 rfl) ?_
  refine SS.cons (so_aload_n hX d_P_count_5 rfl) ?_
  refine SS.cons (so_alenq hX d_P_count_6 rfl) ?_
  exact st_icmp_ge hX d_P_count_7 (by decide)
theorem b_P_count_10 {l : Launch} {D : va_G} {cid : Nat → ClassId} {X : CT} {Post : PT} (hX : OK l D cid m_P_count X Post) : SS l D cid m_P_count X 10 [o_aload 0, o_iload 2, o_aldq 2] (t_null (FR l D cid m_P_count X 19) (FR l D cid m_P_count X 16)) := by
  refine SS.cons (so_aload_n hX d_P_count_10 rfl) ?_
  refine SS.cons (so_iload_n hX d_P_count_11 rfl) ?_
  refine SS.cons (so_aldq hX d_P_count_12 rfl) ?_
  exact st_ifnull hX d_P_count_13 (by decide)
theorem b_P_count_16 {l : Launch} {D : va_G} {cid : Nat → ClassId} {X : CT} {Post : PT} (hX : OK l D cid m_P_count X Post) : SS l D cid m_P_count X 16 [o_iinc 1 1] (FR l D cid m_P_count X 19) := by
  refine SS.cons (so_iinc hX d_P_count_16 (by decide) (by decide)) ?_
  exact SS.fall
theorem b_P_count_19 {l : Launch} {D : va_G} {cid : Nat → ClassId} {X : CT} {Post : PT} (hX : OK l D cid m_P_count X Post) : SS l D cid m_P_count X 19 [o_iinc 2 1] (FR l D cid m_P_count X 4) := by
  refine SS.cons (so_iinc hX d_P_count_19 (by decide) (by decide)) ?_
  exact so_goto hX d_P_count_22 (by decide)
theorem b_P_count_25 {l : Launch} {D : va_G} {cid : Nat → ClassId} {X : CT} {Post : PT} (hX : OK l D cid m_P_count X Post) : SS l D cid m_P_count X 25 [o_iload 1] (t_iret Post) := by
  refine SS.cons (so_iload_n hX d_P_count_25 rfl) ?_
  exact st_iret hX d_P_count_26 rfl
abbrev m_P_greatestView : MT := (⟨"GroupLog$Replica", "greatestView", "([LGroupLog$Message;)I"⟩, prog_4_method_3_code, 3, (some FieldType.int), { frames := 1, cells := 0, slots := 0, locals := 21 })
theorem pf_P_greatestView : plainFor m_P_greatestView.1 = true := by decide +kernel
theorem d_P_greatestView_0 : decode prog_4_method_3_code 0 = .ok (.iconst 0, 1) := by decide +kernel
theorem d_P_greatestView_1 : decode prog_4_method_3_code 1 = .ok (.istore_n 1, 1) := by decide +kernel
theorem d_P_greatestView_2 : decode prog_4_method_3_code 2 = .ok (.iconst 0, 1) := by decide +kernel
theorem d_P_greatestView_3 : decode prog_4_method_3_code 3 = .ok (.istore_n 2, 1) := by decide +kernel
theorem d_P_greatestView_4 : decode prog_4_method_3_code 4 = .ok (.iload_n 2, 1) := by decide +kernel
theorem d_P_greatestView_5 : decode prog_4_method_3_code 5 = .ok (.aload_n 0, 1) := by decide +kernel
theorem d_P_greatestView_6 : decode prog_4_method_3_code 6 = .ok (.arraylength, 1) := by decide +kernel
theorem d_P_greatestView_7 : decode prog_4_method_3_code 7 = .ok (.if_icmp .ge 26, 3) := by decide +kernel
theorem d_P_greatestView_10 : decode prog_4_method_3_code 10 = .ok (.aload_n 0, 1) := by decide +kernel
theorem d_P_greatestView_11 : decode prog_4_method_3_code 11 = .ok (.iload_n 2, 1) := by decide +kernel
theorem d_P_greatestView_12 : decode prog_4_method_3_code 12 = .ok (.aaload, 1) := by decide +kernel
theorem d_P_greatestView_13 : decode prog_4_method_3_code 13 = .ok (.ifnull 14, 3) := by decide +kernel
theorem d_P_greatestView_16 : decode prog_4_method_3_code 16 = .ok (.iload_n 1, 1) := by decide +kernel
theorem d_P_greatestView_17 : decode prog_4_method_3_code 17 = .ok (.aload_n 0, 1) := by decide +kernel
theorem d_P_greatestView_18 : decode prog_4_method_3_code 18 = .ok (.iload_n 2, 1) := by decide +kernel
theorem d_P_greatestView_19 : decode prog_4_method_3_code 19 = .ok (.aaload, 1) := by decide +kernel
theorem d_P_greatestView_20 : decode prog_4_method_3_code 20 = .ok (.getfield 60, 3) := by decide +kernel
theorem d_P_greatestView_23 : decode prog_4_method_3_code 23 = .ok (.invokestatic 61, 3) := by decide +kernel
theorem d_P_greatestView_26 : decode prog_4_method_3_code 26 = .ok (.istore_n 1, 1) := by decide +kernel
theorem d_P_greatestView_27 : decode prog_4_method_3_code 27 = .ok (.iinc 2 1, 3) := by decide +kernel
theorem d_P_greatestView_30 : decode prog_4_method_3_code 30 = .ok (.goto (-26), 3) := by decide +kernel
theorem d_P_greatestView_33 : decode prog_4_method_3_code 33 = .ok (.iload_n 1, 1) := by decide +kernel
theorem d_P_greatestView_34 : decode prog_4_method_3_code 34 = .ok (.ireturn, 1) := by decide +kernel
theorem b_P_greatestView_0 {l : Launch} {D : va_G} {cid : Nat → ClassId} {X : CT} {Post : PT} (hX : OK l D cid m_P_greatestView X Post) : SS l D cid m_P_greatestView X 0 [o_push (.int 0), o_istore 1, o_push (.int 0), o_istore 2] (FR l D cid m_P_greatestView X 4) := by
  refine SS.cons (so_iconst hX d_P_greatestView_0 (by decide)) ?_
  refine SS.cons (so_istore_n hX d_P_greatestView_1 rfl (by decide)) ?_
  refine SS.cons (so_iconst hX d_P_greatestView_2 (by decide)) ?_
  refine SS.cons (so_istore_n hX d_P_greatestView_3 rfl (by decide)) ?_
  exact SS.fall
theorem b_P_greatestView_4 {l : Launch} {D : va_G} {cid : Nat → ClassId} {X : CT} {Post : PT} (hX : OK l D cid m_P_greatestView X Post) : SS l D cid m_P_greatestView X 4 [o_iload 2, o_aload 0, o_alenq 2] (t_cmp (fun x y => y ≤ x) (FR l D cid m_P_greatestView X 33) (FR l D cid m_P_greatestView X 10)) := by
  refine SS.cons (so_iload_n hX d_P_greatestView_4 rfl) ?_
  refine SS.cons (so_aload_n hX d_P_greatestView_5 rfl) ?_
  refine SS.cons (so_alenq hX d_P_greatestView_6 rfl) ?_
  exact st_icmp_ge hX d_P_greatestView_7 (by decide)
theorem b_P_greatestView_10 {l : Launch} {D : va_G} {cid : Nat → ClassId} {X : CT} {Post : PT} (hX : OK l D cid m_P_greatestView X Post) : SS l D cid m_P_greatestView X 10 [o_aload 0, o_iload 2, o_aldq 2] (t_null (FR l D cid m_P_greatestView X 27) (FR l D cid m_P_greatestView X 16)) := by
  refine SS.cons (so_aload_n hX d_P_greatestView_10 rfl) ?_
  refine SS.cons (so_iload_n hX d_P_greatestView_11 rfl) ?_
  refine SS.cons (so_aldq hX d_P_greatestView_12 rfl) ?_
  exact st_ifnull hX d_P_greatestView_13 (by decide)
theorem b_P_greatestView_16 {l : Launch} {D : va_G} {cid : Nat → ClassId} {X : CT} {Post : PT} (hX : OK l D cid m_P_greatestView X Post) : SS l D cid m_P_greatestView X 16 [o_iload 1, o_aload 0, o_iload 2, o_aldq 2, o_getf 1 3, o_callS l D cid m_J_max 2, o_istore 1] (FR l D cid m_P_greatestView X 27) := by
  refine SS.cons (so_iload_n hX d_P_greatestView_16 rfl) ?_
  refine SS.cons (so_aload_n hX d_P_greatestView_17 rfl) ?_
  refine SS.cons (so_iload_n hX d_P_greatestView_18 rfl) ?_
  refine SS.cons (so_aldq hX d_P_greatestView_19 rfl) ?_
  refine SS.cons (so_getf (C := R_E) (T := T_E) hX d_P_greatestView_20 in_E rfl (by decide) k_249) ?_
  refine SS.cons (so_callS (M' := m_J_max) hX d_P_greatestView_23 k_212 k_308 k_211 k_49 pf_J_max (by decide) (by decide +kernel) ⟨by decide, by decide⟩) ?_
  refine SS.cons (so_istore_n hX d_P_greatestView_26 rfl (by decide)) ?_
  exact SS.fall
theorem b_P_greatestView_27 {l : Launch} {D : va_G} {cid : Nat → ClassId} {X : CT} {Post : PT} (hX : OK l D cid m_P_greatestView X Post) : SS l D cid m_P_greatestView X 27 [o_iinc 2 1] (FR l D cid m_P_greatestView X 4) := by
  refine SS.cons (so_iinc hX d_P_greatestView_27 (by decide) (by decide)) ?_
  exact so_goto hX d_P_greatestView_30 (by decide)
theorem b_P_greatestView_33 {l : Launch} {D : va_G} {cid : Nat → ClassId} {X : CT} {Post : PT} (hX : OK l D cid m_P_greatestView X Post) : SS l D cid m_P_greatestView X 33 [o_iload 1] (t_iret Post) := by
  refine SS.cons (so_iload_n hX d_P_greatestView_33 rfl) ?_
  exact st_iret hX d_P_greatestView_34 rfl
abbrev m_P_forgetAcked : MT := (⟨"GroupLog$Replica", "forgetAcked", "()V"⟩, prog_4_method_5_code, 2, (none : Option FieldType), { frames := 0, cells := 0, slots := 0, locals := 0 })
theorem pf_P_forgetAcked : plainFor m_P_forgetAcked.1 = true := by decide +kernel
theorem d_P_forgetAcked_0 : decode prog_4_method_5_code 0 = .ok (.iconst 0, 1) := by decide +kernel
theorem d_P_forgetAcked_1 : decode prog_4_method_5_code 1 = .ok (.istore_n 1, 1) := by decide +kernel
theorem d_P_forgetAcked_2 : decode prog_4_method_5_code 2 = .ok (.iload_n 1, 1) := by decide +kernel
theorem d_P_forgetAcked_3 : decode prog_4_method_5_code 3 = .ok (.aload_n 0, 1) := by decide +kernel
theorem d_P_forgetAcked_4 : decode prog_4_method_5_code 4 = .ok (.getfield 45, 3) := by decide +kernel
theorem d_P_forgetAcked_7 : decode prog_4_method_5_code 7 = .ok (.arraylength, 1) := by decide +kernel
theorem d_P_forgetAcked_8 : decode prog_4_method_5_code 8 = .ok (.if_icmp .ge 16, 3) := by decide +kernel
theorem d_P_forgetAcked_11 : decode prog_4_method_5_code 11 = .ok (.aload_n 0, 1) := by decide +kernel
theorem d_P_forgetAcked_12 : decode prog_4_method_5_code 12 = .ok (.getfield 45, 3) := by decide +kernel
theorem d_P_forgetAcked_15 : decode prog_4_method_5_code 15 = .ok (.iload_n 1, 1) := by decide +kernel
theorem d_P_forgetAcked_16 : decode prog_4_method_5_code 16 = .ok (.iconst 0, 1) := by decide +kernel
theorem d_P_forgetAcked_17 : decode prog_4_method_5_code 17 = .ok (.iastore, 1) := by decide +kernel
theorem d_P_forgetAcked_18 : decode prog_4_method_5_code 18 = .ok (.iinc 1 1, 3) := by decide +kernel
theorem d_P_forgetAcked_21 : decode prog_4_method_5_code 21 = .ok (.goto (-19), 3) := by decide +kernel
theorem d_P_forgetAcked_24 : decode prog_4_method_5_code 24 = .ok (.return_, 1) := by decide +kernel
theorem b_P_forgetAcked_0 {l : Launch} {D : va_G} {cid : Nat → ClassId} {X : CT} {Post : PT} (hX : OK l D cid m_P_forgetAcked X Post) : SS l D cid m_P_forgetAcked X 0 [o_push (.int 0), o_istore 1] (FR l D cid m_P_forgetAcked X 2) := by
  refine SS.cons (so_iconst hX d_P_forgetAcked_0 (by decide)) ?_
  refine SS.cons (so_istore_n hX d_P_forgetAcked_1 rfl (by decide)) ?_
  exact SS.fall
theorem b_P_forgetAcked_2 {l : Launch} {D : va_G} {cid : Nat → ClassId} {X : CT} {Post : PT} (hX : OK l D cid m_P_forgetAcked X Post) : SS l D cid m_P_forgetAcked X 2 [o_iload 1, o_aload 0, o_getf 2 7, o_alen 0] (t_cmp (fun x y => y ≤ x) (FR l D cid m_P_forgetAcked X 24) (FR l D cid m_P_forgetAcked X 11)) := by
  refine SS.cons (so_iload_n hX d_P_forgetAcked_2 rfl) ?_
  refine SS.cons (so_aload_n hX d_P_forgetAcked_3 rfl) ?_
  refine SS.cons (so_getf (C := R_P) (T := T_P) hX d_P_forgetAcked_4 in_P rfl (by decide) k_120) ?_
  refine SS.cons (so_alen hX d_P_forgetAcked_7 rfl) ?_
  exact st_icmp_ge hX d_P_forgetAcked_8 (by decide)
theorem b_P_forgetAcked_11 {l : Launch} {D : va_G} {cid : Nat → ClassId} {X : CT} {Post : PT} (hX : OK l D cid m_P_forgetAcked X Post) : SS l D cid m_P_forgetAcked X 11 [o_aload 0, o_getf 2 7, o_iload 1, o_push (.int 0), o_ast, o_iinc 1 1] (FR l D cid m_P_forgetAcked X 2) := by
  refine SS.cons (so_aload_n hX d_P_forgetAcked_11 rfl) ?_
  refine SS.cons (so_getf (C := R_P) (T := T_P) hX d_P_forgetAcked_12 in_P rfl (by decide) k_120) ?_
  refine SS.cons (so_iload_n hX d_P_forgetAcked_15 rfl) ?_
  refine SS.cons (so_iconst hX d_P_forgetAcked_16 (by decide)) ?_
  refine SS.cons (so_iast hX d_P_forgetAcked_17) ?_
  refine SS.cons (so_iinc hX d_P_forgetAcked_18 (by decide) (by decide)) ?_
  exact so_goto hX d_P_forgetAcked_21 (by decide)
theorem b_P_forgetAcked_24 {l : Launch} {D : va_G} {cid : Nat → ClassId} {X : CT} {Post : PT} (hX : OK l D cid m_P_forgetAcked X Post) : SS l D cid m_P_forgetAcked X 24 [] (t_ret Post) := by
  exact st_ret hX d_P_forgetAcked_24 rfl
abbrev m_P_forgetKept : MT := (⟨"GroupLog$Replica", "forgetKept", "()V"⟩, prog_4_method_6_code, 2, (none : Option FieldType), { frames := 0, cells := 0, slots := 0, locals := 0 })
theorem pf_P_forgetKept : plainFor m_P_forgetKept.1 = true := by decide +kernel
theorem d_P_forgetKept_0 : decode prog_4_method_6_code 0 = .ok (.iconst 0, 1) := by decide +kernel
theorem d_P_forgetKept_1 : decode prog_4_method_6_code 1 = .ok (.istore_n 1, 1) := by decide +kernel
theorem d_P_forgetKept_2 : decode prog_4_method_6_code 2 = .ok (.iload_n 1, 1) := by decide +kernel
theorem d_P_forgetKept_3 : decode prog_4_method_6_code 3 = .ok (.aload_n 0, 1) := by decide +kernel
theorem d_P_forgetKept_4 : decode prog_4_method_6_code 4 = .ok (.getfield 50, 3) := by decide +kernel
theorem d_P_forgetKept_7 : decode prog_4_method_6_code 7 = .ok (.arraylength, 1) := by decide +kernel
theorem d_P_forgetKept_8 : decode prog_4_method_6_code 8 = .ok (.if_icmp .ge 30, 3) := by decide +kernel
theorem d_P_forgetKept_11 : decode prog_4_method_6_code 11 = .ok (.aload_n 0, 1) := by decide +kernel
theorem d_P_forgetKept_12 : decode prog_4_method_6_code 12 = .ok (.getfield 50, 3) := by decide +kernel
theorem d_P_forgetKept_15 : decode prog_4_method_6_code 15 = .ok (.iload_n 1, 1) := by decide +kernel
theorem d_P_forgetKept_16 : decode prog_4_method_6_code 16 = .ok (.aconst_null, 1) := by decide +kernel
theorem d_P_forgetKept_17 : decode prog_4_method_6_code 17 = .ok (.aastore, 1) := by decide +kernel
theorem d_P_forgetKept_18 : decode prog_4_method_6_code 18 = .ok (.aload_n 0, 1) := by decide +kernel
theorem d_P_forgetKept_19 : decode prog_4_method_6_code 19 = .ok (.getfield 54, 3) := by decide +kernel
theorem d_P_forgetKept_22 : decode prog_4_method_6_code 22 = .ok (.iload_n 1, 1) := by decide +kernel
theorem d_P_forgetKept_23 : decode prog_4_method_6_code 23 = .ok (.aconst_null, 1) := by decide +kernel
theorem d_P_forgetKept_24 : decode prog_4_method_6_code 24 = .ok (.aastore, 1) := by decide +kernel
theorem d_P_forgetKept_25 : decode prog_4_method_6_code 25 = .ok (.aload_n 0, 1) := by decide +kernel
theorem d_P_forgetKept_26 : decode prog_4_method_6_code 26 = .ok (.getfield 57, 3) := by decide +kernel
theorem d_P_forgetKept_29 : decode prog_4_method_6_code 29 = .ok (.iload_n 1, 1) := by decide +kernel
theorem d_P_forgetKept_30 : decode prog_4_method_6_code 30 = .ok (.aconst_null, 1) := by decide +kernel
theorem d_P_forgetKept_31 : decode prog_4_method_6_code 31 = .ok (.aastore, 1) := by decide +kernel
theorem d_P_forgetKept_32 : decode prog_4_method_6_code 32 = .ok (.iinc 1 1, 3) := by decide +kernel
theorem d_P_forgetKept_35 : decode prog_4_method_6_code 35 = .ok (.goto (-33), 3) := by decide +kernel
theorem d_P_forgetKept_38 : decode prog_4_method_6_code 38 = .ok (.return_, 1) := by decide +kernel
theorem b_P_forgetKept_0 {l : Launch} {D : va_G} {cid : Nat → ClassId} {X : CT} {Post : PT} (hX : OK l D cid m_P_forgetKept X Post) : SS l D cid m_P_forgetKept X 0 [o_push (.int 0), o_istore 1] (FR l D cid m_P_forgetKept X 2) := by
  refine SS.cons (so_iconst hX d_P_forgetKept_0 (by decide)) ?_
  refine SS.cons (so_istore_n hX d_P_forgetKept_1 rfl (by decide)) ?_
  exact SS.fall
theorem b_P_forgetKept_2 {l : Launch} {D : va_G} {cid : Nat → ClassId} {X : CT} {Post : PT} (hX : OK l D cid m_P_forgetKept X Post) : SS l D cid m_P_forgetKept X 2 [o_iload 1, o_aload 0, o_getf 2 9, o_alenq 2] (t_cmp (fun x y => y ≤ x) (FR l D cid m_P_forgetKept X 38) (FR l D cid m_P_forgetKept X 11)) := by
  refine SS.cons (so_iload_n hX d_P_forgetKept_2 rfl) ?_
  refine SS.cons (so_aload_n hX d_P_forgetKept_3 rfl) ?_
  refine SS.cons (so_getf (C := R_P) (T := T_P) hX d_P_forgetKept_4 in_P rfl (by decide) k_124) ?_
  refine SS.cons (so_alenq hX d_P_forgetKept_7 rfl) ?_
  exact st_icmp_ge hX d_P_forgetKept_8 (by decide)
theorem b_P_forgetKept_11 {l : Launch} {D : va_G} {cid : Nat → ClassId} {X : CT} {Post : PT} (hX : OK l D cid m_P_forgetKept X Post) : SS l D cid m_P_forgetKept X 11 [o_aload 0, o_getf 2 9, o_iload 1, o_push .null, o_astq 2 1, o_aload 0, o_getf 2 10, o_iload 1, o_push .null, o_astq 2 1, o_aload 0, o_getf 2 11, o_iload 1, o_push .null, o_astq 2 1, o_iinc 1 1] (FR l D cid m_P_forgetKept X 2) := by
  refine SS.cons (so_aload_n hX d_P_forgetKept_11 rfl) ?_
  refine SS.cons (so_getf (C := R_P) (T := T_P) hX d_P_forgetKept_12 in_P rfl (by decide) k_124) ?_
  refine SS.cons (so_iload_n hX d_P_forgetKept_15 rfl) ?_
  refine SS.cons (so_null hX d_P_forgetKept_16) ?_
  refine SS.cons (so_astq (r0 := (R_E, T_E, 8)) hX d_P_forgetKept_17 rfl rfl) ?_
  refine SS.cons (so_aload_n hX d_P_forgetKept_18 rfl) ?_
  refine SS.cons (so_getf (C := R_P) (T := T_P) hX d_P_forgetKept_19 in_P rfl (by decide) k_126) ?_
  refine SS.cons (so_iload_n hX d_P_forgetKept_22 rfl) ?_
  refine SS.cons (so_null hX d_P_forgetKept_23) ?_
  refine SS.cons (so_astq (r0 := (R_E, T_E, 8)) hX d_P_forgetKept_24 rfl rfl) ?_
  refine SS.cons (so_aload_n hX d_P_forgetKept_25 rfl) ?_
  refine SS.cons (so_getf (C := R_P) (T := T_P) hX d_P_forgetKept_26 in_P rfl (by decide) k_128) ?_
  refine SS.cons (so_iload_n hX d_P_forgetKept_29 rfl) ?_
  refine SS.cons (so_null hX d_P_forgetKept_30) ?_
  refine SS.cons (so_astq (r0 := (R_E, T_E, 8)) hX d_P_forgetKept_31 rfl rfl) ?_
  refine SS.cons (so_iinc hX d_P_forgetKept_32 (by decide) (by decide)) ?_
  exact so_goto hX d_P_forgetKept_35 (by decide)
theorem b_P_forgetKept_38 {l : Launch} {D : va_G} {cid : Nat → ClassId} {X : CT} {Post : PT} (hX : OK l D cid m_P_forgetKept X Post) : SS l D cid m_P_forgetKept X 38 [] (t_ret Post) := by
  exact st_ret hX d_P_forgetKept_38 rfl
abbrev m_P_forgetEverything : MT := (⟨"GroupLog$Replica", "forgetEverything", "()V"⟩, prog_4_method_4_code, 1, (none : Option FieldType), { frames := 2, cells := 2, slots := 70, locals := 40 })
theorem pf_P_forgetEverything : plainFor m_P_forgetEverything.1 = true := by decide +kernel
theorem d_P_forgetEverything_0 : decode prog_4_method_4_code 0 = .ok (.aload_n 0, 1) := by decide +kernel
theorem d_P_forgetEverything_1 : decode prog_4_method_4_code 1 = .ok (.iconst 0, 1) := by decide +kernel
theorem d_P_forgetEverything_2 : decode prog_4_method_4_code 2 = .ok (.putfield 15, 3) := by decide +kernel
theorem d_P_forgetEverything_5 : decode prog_4_method_4_code 5 = .ok (.aload_n 0, 1) := by decide +kernel
theorem d_P_forgetEverything_6 : decode prog_4_method_4_code 6 = .ok (.iconst 0, 1) := by decide +kernel
theorem d_P_forgetEverything_7 : decode prog_4_method_4_code 7 = .ok (.putfield 18, 3) := by decide +kernel
theorem d_P_forgetEverything_10 : decode prog_4_method_4_code 10 = .ok (.aload_n 0, 1) := by decide +kernel
theorem d_P_forgetEverything_11 : decode prog_4_method_4_code 11 = .ok (.new 21, 3) := by decide +kernel
theorem d_P_forgetEverything_14 : decode prog_4_method_4_code 14 = .ok (.dup, 1) := by decide +kernel
theorem d_P_forgetEverything_15 : decode prog_4_method_4_code 15 = .ok (.invokespecial 23, 3) := by decide +kernel
theorem d_P_forgetEverything_18 : decode prog_4_method_4_code 18 = .ok (.putfield 24, 3) := by decide +kernel
theorem d_P_forgetEverything_21 : decode prog_4_method_4_code 21 = .ok (.aload_n 0, 1) := by decide +kernel
theorem d_P_forgetEverything_22 : decode prog_4_method_4_code 22 = .ok (.iconst 0, 1) := by decide +kernel
theorem d_P_forgetEverything_23 : decode prog_4_method_4_code 23 = .ok (.putfield 28, 3) := by decide +kernel
theorem d_P_forgetEverything_26 : decode prog_4_method_4_code 26 = .ok (.aload_n 0, 1) := by decide +kernel
theorem d_P_forgetEverything_27 : decode prog_4_method_4_code 27 = .ok (.aload_n 0, 1) := by decide +kernel
theorem d_P_forgetEverything_28 : decode prog_4_method_4_code 28 = .ok (.getfield 41, 3) := by decide +kernel
theorem d_P_forgetEverything_31 : decode prog_4_method_4_code 31 = .ok (.arraylength, 1) := by decide +kernel
theorem d_P_forgetEverything_32 : decode prog_4_method_4_code 32 = .ok (.newarray .int, 2) := by decide +kernel
theorem d_P_forgetEverything_34 : decode prog_4_method_4_code 34 = .ok (.putfield 41, 3) := by decide +kernel
theorem d_P_forgetEverything_37 : decode prog_4_method_4_code 37 = .ok (.aload_n 0, 1) := by decide +kernel
theorem d_P_forgetEverything_38 : decode prog_4_method_4_code 38 = .ok (.invokevirtual 67, 3) := by decide +kernel
theorem d_P_forgetEverything_41 : decode prog_4_method_4_code 41 = .ok (.aload_n 0, 1) := by decide +kernel
theorem d_P_forgetEverything_42 : decode prog_4_method_4_code 42 = .ok (.iconst 0, 1) := by decide +kernel
theorem d_P_forgetEverything_43 : decode prog_4_method_4_code 43 = .ok (.putfield 31, 3) := by decide +kernel
theorem d_P_forgetEverything_46 : decode prog_4_method_4_code 46 = .ok (.aload_n 0, 1) := by decide +kernel
theorem d_P_forgetEverything_47 : decode prog_4_method_4_code 47 = .ok (.invokevirtual 70, 3) := by decide +kernel
theorem d_P_forgetEverything_50 : decode prog_4_method_4_code 50 = .ok (.return_, 1) := by decide +kernel
theorem b_P_forgetEverything_0 {l : Launch} {D : va_G} {cid : Nat → ClassId} {X : CT} {Post : PT} (hX : OK l D cid m_P_forgetEverything X Post) : SS l D cid m_P_forgetEverything X 0 [o_aload 0, o_push (.int 0), o_put okI 2 2, o_aload 0, o_push (.int 0), o_put okI 2 3, o_aload 0, o_new 0 6 df_L, o_dup, o_callI l D cid m_L_init 0, o_put okR 2 4, o_aload 0, o_push (.int 0), o_put okI 2 5, o_aload 0, o_aload 0, o_getf 2 6, o_alen 0, o_newI 0, o_put okR 2 6, o_aload 0, o_callV l D cid m_P_forgetAcked 2 0, o_aload 0, o_push (.int 0), o_put okZ 2 8, o_aload 0, o_callV l D cid m_P_forgetKept 2 0] (t_ret Post) := by
  refine SS.cons (so_aload_n hX d_P_forgetEverything_0 rfl) ?_
  refine SS.cons (so_iconst hX d_P_forgetEverything_1 (by decide)) ?_
  refine SS.cons (so_put (C := R_P) (T := T_P) ok_I hX d_P_forgetEverything_2 in_P ty_P nm_P rfl (by decide) k_106 rfl rfl) ?_
  refine SS.cons (so_aload_n hX d_P_forgetEverything_5 rfl) ?_
  refine SS.cons (so_iconst hX d_P_forgetEverything_6 (by decide)) ?_
  refine SS.cons (so_put (C := R_P) (T := T_P) ok_I hX d_P_forgetEverything_7 in_P ty_P nm_P rfl (by decide) k_109 rfl rfl) ?_
  refine SS.cons (so_aload_n hX d_P_forgetEverything_10 rfl) ?_
  refine SS.cons (so_new (C := R_L) (T := T_L) hX d_P_forgetEverything_11 in_L ty_L k_68 k_69 k_47 rfl dv_L) ?_
  refine SS.cons (so_dup hX d_P_forgetEverything_14) ?_
  refine SS.cons (so_callI (M' := m_L_init) hX d_P_forgetEverything_15 k_72 rfl k_70 k_71 k_47 rfl pf_L_init (by decide) (by decide +kernel) ⟨by decide, by decide⟩) ?_
  refine SS.cons (so_put (C := R_P) (T := T_P) (ok_O _) hX d_P_forgetEverything_18 in_P ty_P nm_P rfl (by decide) k_111 rfl rfl) ?_
  refine SS.cons (so_aload_n hX d_P_forgetEverything_21 rfl) ?_
  refine SS.cons (so_iconst hX d_P_forgetEverything_22 (by decide)) ?_
  refine SS.cons (so_put (C := R_P) (T := T_P) ok_I hX d_P_forgetEverything_23 in_P ty_P nm_P rfl (by decide) k_114 rfl rfl) ?_
  refine SS.cons (so_aload_n hX d_P_forgetEverything_26 rfl) ?_
  refine SS.cons (so_aload_n hX d_P_forgetEverything_27 rfl) ?_
  refine SS.cons (so_getf (C := R_P) (T := T_P) hX d_P_forgetEverything_28 in_P rfl (by decide) k_118) ?_
  refine SS.cons (so_alen hX d_P_forgetEverything_31 rfl) ?_
  refine SS.cons (so_newI hX d_P_forgetEverything_32 rfl k_99 rfl (by decide) nw_0) ?_
  refine SS.cons (so_put (C := R_P) (T := T_P) (ok_A _) hX d_P_forgetEverything_34 in_P ty_P nm_P rfl (by decide) k_118 rfl rfl) ?_
  refine SS.cons (so_aload_n hX d_P_forgetEverything_37 rfl) ?_
  refine SS.cons (so_callV (M' := m_P_forgetAcked) (T := T_P) hX d_P_forgetEverything_38 rfl k_384 k_381 k_382 k_383 k_46 pf_P_forgetAcked (by decide) (by decide +kernel) ⟨by decide, by decide⟩) ?_
  refine SS.cons (so_aload_n hX d_P_forgetEverything_41 rfl) ?_
  refine SS.cons (so_iconst hX d_P_forgetEverything_42 (by decide)) ?_
  refine SS.cons (so_put (C := R_P) (T := T_P) ok_Z hX d_P_forgetEverything_43 in_P ty_P nm_P rfl (by decide) k_122 rfl rfl) ?_
  refine SS.cons (so_aload_n hX d_P_forgetEverything_46 rfl) ?_
  refine SS.cons (so_callV (M' := m_P_forgetKept) (T := T_P) hX d_P_forgetEverything_47 rfl k_356 k_353 k_354 k_355 k_46 pf_P_forgetKept (by decide) (by decide +kernel) ⟨by decide, by decide⟩) ?_
  exact st_ret hX d_P_forgetEverything_50 rfl
abbrev m_P_raiseVector : MT := (⟨"GroupLog$Replica", "raiseVector", "([I)V"⟩, prog_4_method_7_code, 4, (none : Option FieldType), { frames := 1, cells := 1, slots := 5, locals := 24 })
theorem pf_P_raiseVector : plainFor m_P_raiseVector.1 = true := by decide +kernel
theorem d_P_raiseVector_0 : decode prog_4_method_7_code 0 = .ok (.aload_n 0, 1) := by decide +kernel
theorem d_P_raiseVector_1 : decode prog_4_method_7_code 1 = .ok (.getfield 41, 3) := by decide +kernel
theorem d_P_raiseVector_4 : decode prog_4_method_7_code 4 = .ok (.invokevirtual 73, 3) := by decide +kernel
theorem d_P_raiseVector_7 : decode prog_4_method_7_code 7 = .ok (.checkcast 74, 3) := by decide +kernel
theorem d_P_raiseVector_10 : decode prog_4_method_7_code 10 = .ok (.astore_n 2, 1) := by decide +kernel
theorem d_P_raiseVector_11 : decode prog_4_method_7_code 11 = .ok (.iconst 0, 1) := by decide +kernel
theorem d_P_raiseVector_12 : decode prog_4_method_7_code 12 = .ok (.istore_n 3, 1) := by decide +kernel
theorem d_P_raiseVector_13 : decode prog_4_method_7_code 13 = .ok (.iload_n 3, 1) := by decide +kernel
theorem d_P_raiseVector_14 : decode prog_4_method_7_code 14 = .ok (.aload_n 2, 1) := by decide +kernel
theorem d_P_raiseVector_15 : decode prog_4_method_7_code 15 = .ok (.arraylength, 1) := by decide +kernel
theorem d_P_raiseVector_16 : decode prog_4_method_7_code 16 = .ok (.if_icmp .ge 21, 3) := by decide +kernel
theorem d_P_raiseVector_19 : decode prog_4_method_7_code 19 = .ok (.aload_n 2, 1) := by decide +kernel
theorem d_P_raiseVector_20 : decode prog_4_method_7_code 20 = .ok (.iload_n 3, 1) := by decide +kernel
theorem d_P_raiseVector_21 : decode prog_4_method_7_code 21 = .ok (.aload_n 2, 1) := by decide +kernel
theorem d_P_raiseVector_22 : decode prog_4_method_7_code 22 = .ok (.iload_n 3, 1) := by decide +kernel
theorem d_P_raiseVector_23 : decode prog_4_method_7_code 23 = .ok (.iaload, 1) := by decide +kernel
theorem d_P_raiseVector_24 : decode prog_4_method_7_code 24 = .ok (.aload_n 1, 1) := by decide +kernel
theorem d_P_raiseVector_25 : decode prog_4_method_7_code 25 = .ok (.iload_n 3, 1) := by decide +kernel
theorem d_P_raiseVector_26 : decode prog_4_method_7_code 26 = .ok (.iaload, 1) := by decide +kernel
theorem d_P_raiseVector_27 : decode prog_4_method_7_code 27 = .ok (.invokestatic 61, 3) := by decide +kernel
theorem d_P_raiseVector_30 : decode prog_4_method_7_code 30 = .ok (.iastore, 1) := by decide +kernel
theorem d_P_raiseVector_31 : decode prog_4_method_7_code 31 = .ok (.iinc 3 1, 3) := by decide +kernel
theorem d_P_raiseVector_34 : decode prog_4_method_7_code 34 = .ok (.goto (-21), 3) := by decide +kernel
theorem d_P_raiseVector_37 : decode prog_4_method_7_code 37 = .ok (.aload_n 0, 1) := by decide +kernel
theorem d_P_raiseVector_38 : decode prog_4_method_7_code 38 = .ok (.aload_n 2, 1) := by decide +kernel
theorem d_P_raiseVector_39 : decode prog_4_method_7_code 39 = .ok (.putfield 41, 3) := by decide +kernel
theorem d_P_raiseVector_42 : decode prog_4_method_7_code 42 = .ok (.return_, 1) := by decide +kernel
theorem b_P_raiseVector_0 {l : Launch} {D : va_G} {cid : Nat → ClassId} {X : CT} {Post : PT} (hX : OK l D cid m_P_raiseVector X Post) : SS l D cid m_P_raiseVector X 0 [o_aload 0, o_getf 2 6, o_clone, o_castI, o_astore 2, o_push (.int 0), o_istore 3] (FR l D cid m_P_raiseVector X 13) := by
  refine SS.cons (so_aload_n hX d_P_raiseVector_0 rfl) ?_
  refine SS.cons (so_getf (C := R_P) (T := T_P) hX d_P_raiseVector_1 in_P rfl (by decide) k_118) ?_
  refine SS.cons (so_clone hX d_P_raiseVector_4 k_301 k_302 k_303 k_304 k_305 (by decide) (by decide)) ?_
  refine SS.cons (so_castI hX d_P_raiseVector_7 k_307) ?_
  refine SS.cons (so_astore_n hX d_P_raiseVector_10 rfl (by decide)) ?_
  refine SS.cons (so_iconst hX d_P_raiseVector_11 (by decide)) ?_
  refine SS.cons (so_istore_n hX d_P_raiseVector_12 rfl (by decide)) ?_
  exact SS.fall
theorem b_P_raiseVector_13 {l : Launch} {D : va_G} {cid : Nat → ClassId} {X : CT} {Post : PT} (hX : OK l D cid m_P_raiseVector X Post) : SS l D cid m_P_raiseVector X 13 [o_iload 3, o_aload 2, o_alen 0] (t_cmp (fun x y => y ≤ x) (FR l D cid m_P_raiseVector X 37) (FR l D cid m_P_raiseVector X 19)) := by
  refine SS.cons (so_iload_n hX d_P_raiseVector_13 rfl) ?_
  refine SS.cons (so_aload_n hX d_P_raiseVector_14 rfl) ?_
  refine SS.cons (so_alen hX d_P_raiseVector_15 rfl) ?_
  exact st_icmp_ge hX d_P_raiseVector_16 (by decide)
theorem b_P_raiseVector_19 {l : Launch} {D : va_G} {cid : Nat → ClassId} {X : CT} {Post : PT} (hX : OK l D cid m_P_raiseVector X Post) : SS l D cid m_P_raiseVector X 19 [o_aload 2, o_iload 3, o_aload 2, o_iload 3, o_ald 0, o_aload 1, o_iload 3, o_ald 0, o_callS l D cid m_J_max 2, o_ast, o_iinc 3 1] (FR l D cid m_P_raiseVector X 13) := by
  refine SS.cons (so_aload_n hX d_P_raiseVector_19 rfl) ?_
  refine SS.cons (so_iload_n hX d_P_raiseVector_20 rfl) ?_
  refine SS.cons (so_aload_n hX d_P_raiseVector_21 rfl) ?_
  refine SS.cons (so_iload_n hX d_P_raiseVector_22 rfl) ?_
  refine SS.cons (so_iald hX d_P_raiseVector_23) ?_
  refine SS.cons (so_aload_n hX d_P_raiseVector_24 rfl) ?_
  refine SS.cons (so_iload_n hX d_P_raiseVector_25 rfl) ?_
  refine SS.cons (so_iald hX d_P_raiseVector_26) ?_
  refine SS.cons (so_callS (M' := m_J_max) hX d_P_raiseVector_27 k_212 k_308 k_211 k_49 pf_J_max (by decide) (by decide +kernel) ⟨by decide, by decide⟩) ?_
  refine SS.cons (so_iast hX d_P_raiseVector_30) ?_
  refine SS.cons (so_iinc hX d_P_raiseVector_31 (by decide) (by decide)) ?_
  exact so_goto hX d_P_raiseVector_34 (by decide)
theorem b_P_raiseVector_37 {l : Launch} {D : va_G} {cid : Nat → ClassId} {X : CT} {Post : PT} (hX : OK l D cid m_P_raiseVector X Post) : SS l D cid m_P_raiseVector X 37 [o_aload 0, o_aload 2, o_put okR 2 6] (t_ret Post) := by
  refine SS.cons (so_aload_n hX d_P_raiseVector_37 rfl) ?_
  refine SS.cons (so_aload_n hX d_P_raiseVector_38 rfl) ?_
  refine SS.cons (so_put (C := R_P) (T := T_P) (ok_A _) hX d_P_raiseVector_39 in_P ty_P nm_P rfl (by decide) k_118 rfl rfl) ?_
  exact st_ret hX d_P_raiseVector_42 rfl
abbrev m_P_dropOutdated : MT := (⟨"GroupLog$Replica", "dropOutdated", "([LGroupLog$Message;)V"⟩, prog_4_method_9_code, 3, (none : Option FieldType), { frames := 0, cells := 0, slots := 0, locals := 0 })
theorem pf_P_dropOutdated : plainFor m_P_dropOutdated.1 = true := by decide +kernel
theorem d_P_dropOutdated_0 : decode prog_4_method_9_code 0 = .ok (.iconst 0, 1) := by decide +kernel
theorem d_P_dropOutdated_1 : decode prog_4_method_9_code 1 = .ok (.istore_n 2, 1) := by decide +kernel
theorem d_P_dropOutdated_2 : decode prog_4_method_9_code 2 = .ok (.iload_n 2, 1) := by decide +kernel
theorem d_P_dropOutdated_3 : decode prog_4_method_9_code 3 = .ok (.aload_n 1, 1) := by decide +kernel
theorem d_P_dropOutdated_4 : decode prog_4_method_9_code 4 = .ok (.arraylength, 1) := by decide +kernel
theorem d_P_dropOutdated_5 : decode prog_4_method_9_code 5 = .ok (.if_icmp .ge 36, 3) := by decide +kernel
theorem d_P_dropOutdated_8 : decode prog_4_method_9_code 8 = .ok (.aload_n 1, 1) := by decide +kernel
theorem d_P_dropOutdated_9 : decode prog_4_method_9_code 9 = .ok (.iload_n 2, 1) := by decide +kernel
theorem d_P_dropOutdated_10 : decode prog_4_method_9_code 10 = .ok (.aaload, 1) := by decide +kernel
theorem d_P_dropOutdated_11 : decode prog_4_method_9_code 11 = .ok (.ifnull 24, 3) := by decide +kernel
theorem d_P_dropOutdated_14 : decode prog_4_method_9_code 14 = .ok (.aload_n 1, 1) := by decide +kernel
theorem d_P_dropOutdated_15 : decode prog_4_method_9_code 15 = .ok (.iload_n 2, 1) := by decide +kernel
theorem d_P_dropOutdated_16 : decode prog_4_method_9_code 16 = .ok (.aaload, 1) := by decide +kernel
theorem d_P_dropOutdated_17 : decode prog_4_method_9_code 17 = .ok (.getfield 82, 3) := by decide +kernel
theorem d_P_dropOutdated_20 : decode prog_4_method_9_code 20 = .ok (.iload_n 2, 1) := by decide +kernel
theorem d_P_dropOutdated_21 : decode prog_4_method_9_code 21 = .ok (.iaload, 1) := by decide +kernel
theorem d_P_dropOutdated_22 : decode prog_4_method_9_code 22 = .ok (.aload_n 0, 1) := by decide +kernel
theorem d_P_dropOutdated_23 : decode prog_4_method_9_code 23 = .ok (.getfield 41, 3) := by decide +kernel
theorem d_P_dropOutdated_26 : decode prog_4_method_9_code 26 = .ok (.iload_n 2, 1) := by decide +kernel
theorem d_P_dropOutdated_27 : decode prog_4_method_9_code 27 = .ok (.iaload, 1) := by decide +kernel
theorem d_P_dropOutdated_28 : decode prog_4_method_9_code 28 = .ok (.if_icmp .ge 7, 3) := by decide +kernel
theorem d_P_dropOutdated_31 : decode prog_4_method_9_code 31 = .ok (.aload_n 1, 1) := by decide +kernel
theorem d_P_dropOutdated_32 : decode prog_4_method_9_code 32 = .ok (.iload_n 2, 1) := by decide +kernel
theorem d_P_dropOutdated_33 : decode prog_4_method_9_code 33 = .ok (.aconst_null, 1) := by decide +kernel
theorem d_P_dropOutdated_34 : decode prog_4_method_9_code 34 = .ok (.aastore, 1) := by decide +kernel
theorem d_P_dropOutdated_35 : decode prog_4_method_9_code 35 = .ok (.iinc 2 1, 3) := by decide +kernel
theorem d_P_dropOutdated_38 : decode prog_4_method_9_code 38 = .ok (.goto (-36), 3) := by decide +kernel
theorem d_P_dropOutdated_41 : decode prog_4_method_9_code 41 = .ok (.return_, 1) := by decide +kernel
theorem b_P_dropOutdated_0 {l : Launch} {D : va_G} {cid : Nat → ClassId} {X : CT} {Post : PT} (hX : OK l D cid m_P_dropOutdated X Post) : SS l D cid m_P_dropOutdated X 0 [o_push (.int 0), o_istore 2] (FR l D cid m_P_dropOutdated X 2) := by
  refine SS.cons (so_iconst hX d_P_dropOutdated_0 (by decide)) ?_
  refine SS.cons (so_istore_n hX d_P_dropOutdated_1 rfl (by decide)) ?_
  exact SS.fall
theorem b_P_dropOutdated_2 {l : Launch} {D : va_G} {cid : Nat → ClassId} {X : CT} {Post : PT} (hX : OK l D cid m_P_dropOutdated X Post) : SS l D cid m_P_dropOutdated X 2 [o_iload 2, o_aload 1, o_alenq 2] (t_cmp (fun x y => y ≤ x) (FR l D cid m_P_dropOutdated X 41) (FR l D cid m_P_dropOutdated X 8)) := by
  refine SS.cons (so_iload_n hX d_P_dropOutdated_2 rfl) ?_
  refine SS.cons (so_aload_n hX d_P_dropOutdated_3 rfl) ?_
  refine SS.cons (so_alenq hX d_P_dropOutdated_4 rfl) ?_
  exact st_icmp_ge hX d_P_dropOutdated_5 (by decide)
theorem b_P_dropOutdated_8 {l : Launch} {D : va_G} {cid : Nat → ClassId} {X : CT} {Post : PT} (hX : OK l D cid m_P_dropOutdated X Post) : SS l D cid m_P_dropOutdated X 8 [o_aload 1, o_iload 2, o_aldq 2] (t_null (FR l D cid m_P_dropOutdated X 35) (FR l D cid m_P_dropOutdated X 14)) := by
  refine SS.cons (so_aload_n hX d_P_dropOutdated_8 rfl) ?_
  refine SS.cons (so_iload_n hX d_P_dropOutdated_9 rfl) ?_
  refine SS.cons (so_aldq hX d_P_dropOutdated_10 rfl) ?_
  exact st_ifnull hX d_P_dropOutdated_11 (by decide)
theorem b_P_dropOutdated_14 {l : Launch} {D : va_G} {cid : Nat → ClassId} {X : CT} {Post : PT} (hX : OK l D cid m_P_dropOutdated X Post) : SS l D cid m_P_dropOutdated X 14 [o_aload 1, o_iload 2, o_aldq 2, o_getf 1 5, o_iload 2, o_ald 0, o_aload 0, o_getf 2 6, o_iload 2, o_ald 0] (t_cmp (fun x y => y ≤ x) (FR l D cid m_P_dropOutdated X 35) (FR l D cid m_P_dropOutdated X 31)) := by
  refine SS.cons (so_aload_n hX d_P_dropOutdated_14 rfl) ?_
  refine SS.cons (so_iload_n hX d_P_dropOutdated_15 rfl) ?_
  refine SS.cons (so_aldq hX d_P_dropOutdated_16 rfl) ?_
  refine SS.cons (so_getf (C := R_E) (T := T_E) hX d_P_dropOutdated_17 in_E rfl (by decide) k_254) ?_
  refine SS.cons (so_iload_n hX d_P_dropOutdated_20 rfl) ?_
  refine SS.cons (so_iald hX d_P_dropOutdated_21) ?_
  refine SS.cons (so_aload_n hX d_P_dropOutdated_22 rfl) ?_
  refine SS.cons (so_getf (C := R_P) (T := T_P) hX d_P_dropOutdated_23 in_P rfl (by decide) k_118) ?_
  refine SS.cons (so_iload_n hX d_P_dropOutdated_26 rfl) ?_
  refine SS.cons (so_iald hX d_P_dropOutdated_27) ?_
  exact st_icmp_ge hX d_P_dropOutdated_28 (by decide)
theorem b_P_dropOutdated_31 {l : Launch} {D : va_G} {cid : Nat → ClassId} {X : CT} {Post : PT} (hX : OK l D cid m_P_dropOutdated X Post) : SS l D cid m_P_dropOutdated X 31 [o_aload 1, o_iload 2, o_push .null, o_astq 2 1] (FR l D cid m_P_dropOutdated X 35) := by
  refine SS.cons (so_aload_n hX d_P_dropOutdated_31 rfl) ?_
  refine SS.cons (so_iload_n hX d_P_dropOutdated_32 rfl) ?_
  refine SS.cons (so_null hX d_P_dropOutdated_33) ?_
  refine SS.cons (so_astq (r0 := (R_E, T_E, 8)) hX d_P_dropOutdated_34 rfl rfl) ?_
  exact SS.fall
theorem b_P_dropOutdated_35 {l : Launch} {D : va_G} {cid : Nat → ClassId} {X : CT} {Post : PT} (hX : OK l D cid m_P_dropOutdated X Post) : SS l D cid m_P_dropOutdated X 35 [o_iinc 2 1] (FR l D cid m_P_dropOutdated X 2) := by
  refine SS.cons (so_iinc hX d_P_dropOutdated_35 (by decide) (by decide)) ?_
  exact so_goto hX d_P_dropOutdated_38 (by decide)
theorem b_P_dropOutdated_41 {l : Launch} {D : va_G} {cid : Nat → ClassId} {X : CT} {Post : PT} (hX : OK l D cid m_P_dropOutdated X Post) : SS l D cid m_P_dropOutdated X 41 [] (t_ret Post) := by
  exact st_ret hX d_P_dropOutdated_41 rfl
abbrev m_P_forgetOutdated : MT := (⟨"GroupLog$Replica", "forgetOutdated", "()V"⟩, prog_4_method_8_code, 1, (none : Option FieldType), { frames := 1, cells := 0, slots := 0, locals := 22 })
theorem pf_P_forgetOutdated : plainFor m_P_forgetOutdated.1 = true := by decide +kernel
theorem d_P_forgetOutdated_0 : decode prog_4_method_8_code 0 = .ok (.aload_n 0, 1) := by decide +kernel
theorem d_P_forgetOutdated_1 : decode prog_4_method_8_code 1 = .ok (.aload_n 0, 1) := by decide +kernel
theorem d_P_forgetOutdated_2 : decode prog_4_method_8_code 2 = .ok (.getfield 50, 3) := by decide +kernel
theorem d_P_forgetOutdated_5 : decode prog_4_method_8_code 5 = .ok (.invokevirtual 78, 3) := by decide +kernel
theorem d_P_forgetOutdated_8 : decode prog_4_method_8_code 8 = .ok (.aload_n 0, 1) := by decide +kernel
theorem d_P_forgetOutdated_9 : decode prog_4_method_8_code 9 = .ok (.aload_n 0, 1) := by decide +kernel
theorem d_P_forgetOutdated_10 : decode prog_4_method_8_code 10 = .ok (.getfield 54, 3) := by decide +kernel
theorem d_P_forgetOutdated_13 : decode prog_4_method_8_code 13 = .ok (.invokevirtual 78, 3) := by decide +kernel
theorem d_P_forgetOutdated_16 : decode prog_4_method_8_code 16 = .ok (.aload_n 0, 1) := by decide +kernel
theorem d_P_forgetOutdated_17 : decode prog_4_method_8_code 17 = .ok (.aload_n 0, 1) := by decide +kernel
theorem d_P_forgetOutdated_18 : decode prog_4_method_8_code 18 = .ok (.getfield 57, 3) := by decide +kernel
theorem d_P_forgetOutdated_21 : decode prog_4_method_8_code 21 = .ok (.invokevirtual 78, 3) := by decide +kernel
theorem d_P_forgetOutdated_24 : decode prog_4_method_8_code 24 = .ok (.return_, 1) := by decide +kernel
theorem b_P_forgetOutdated_0 {l : Launch} {D : va_G} {cid : Nat → ClassId} {X : CT} {Post : PT} (hX : OK l D cid m_P_forgetOutdated X Post) : SS l D cid m_P_forgetOutdated X 0 [o_aload 0, o_aload 0, o_getf 2 9, o_callV l D cid m_P_dropOutdated 2 1, o_aload 0, o_aload 0, o_getf 2 10, o_callV l D cid m_P_dropOutdated 2 1, o_aload 0, o_aload 0, o_getf 2 11, o_callV l D cid m_P_dropOutdated 2 1] (t_ret Post) := by
  refine SS.cons (so_aload_n hX d_P_forgetOutdated_0 rfl) ?_
  refine SS.cons (so_aload_n hX d_P_forgetOutdated_1 rfl) ?_
  refine SS.cons (so_getf (C := R_P) (T := T_P) hX d_P_forgetOutdated_2 in_P rfl (by decide) k_124) ?_
  refine SS.cons (so_callV (M' := m_P_dropOutdated) (T := T_P) hX d_P_forgetOutdated_5 rfl k_316 k_313 k_315 k_9 k_46 pf_P_dropOutdated (by decide) (by decide +kernel) ⟨by decide, by decide⟩) ?_
  refine SS.cons (so_aload_n hX d_P_forgetOutdated_8 rfl) ?_
  refine SS.cons (so_aload_n hX d_P_forgetOutdated_9 rfl) ?_
  refine SS.cons (so_getf (C := R_P) (T := T_P) hX d_P_forgetOutdated_10 in_P rfl (by decide) k_126) ?_
  refine SS.cons (so_callV (M' := m_P_dropOutdated) (T := T_P) hX d_P_forgetOutdated_13 rfl k_316 k_313 k_315 k_9 k_46 pf_P_dropOutdated (by decide) (by decide +kernel) ⟨by decide, by decide⟩) ?_
  refine SS.cons (so_aload_n hX d_P_forgetOutdated_16 rfl) ?_
  refine SS.cons (so_aload_n hX d_P_forgetOutdated_17 rfl) ?_
  refine SS.cons (so_getf (C := R_P) (T := T_P) hX d_P_forgetOutdated_18 in_P rfl (by decide) k_128) ?_
  refine SS.cons (so_callV (M' := m_P_dropOutdated) (T := T_P) hX d_P_forgetOutdated_21 rfl k_316 k_313 k_315 k_9 k_46 pf_P_dropOutdated (by decide) (by decide +kernel) ⟨by decide, by decide⟩) ?_
  exact st_ret hX d_P_forgetOutdated_24 rfl
abbrev m_P_countAcked : MT := (⟨"GroupLog$Replica", "countAcked", "(I)I"⟩, prog_4_method_11_code, 4, (some FieldType.int), { frames := 0, cells := 0, slots := 0, locals := 0 })
theorem pf_P_countAcked : plainFor m_P_countAcked.1 = true := by decide +kernel
theorem d_P_countAcked_0 : decode prog_4_method_11_code 0 = .ok (.iconst 0, 1) := by decide +kernel
theorem d_P_countAcked_1 : decode prog_4_method_11_code 1 = .ok (.istore_n 2, 1) := by decide +kernel
theorem d_P_countAcked_2 : decode prog_4_method_11_code 2 = .ok (.iconst 0, 1) := by decide +kernel
theorem d_P_countAcked_3 : decode prog_4_method_11_code 3 = .ok (.istore_n 3, 1) := by decide +kernel
theorem d_P_countAcked_4 : decode prog_4_method_11_code 4 = .ok (.iload_n 3, 1) := by decide +kernel
theorem d_P_countAcked_5 : decode prog_4_method_11_code 5 = .ok (.aload_n 0, 1) := by decide +kernel
theorem d_P_countAcked_6 : decode prog_4_method_11_code 6 = .ok (.getfield 45, 3) := by decide +kernel
theorem d_P_countAcked_9 : decode prog_4_method_11_code 9 = .ok (.arraylength, 1) := by decide +kernel
theorem d_P_countAcked_10 : decode prog_4_method_11_code 10 = .ok (.if_icmp .ge 22, 3) := by decide +kernel
theorem d_P_countAcked_13 : decode prog_4_method_11_code 13 = .ok (.aload_n 0, 1) := by decide +kernel
theorem d_P_countAcked_14 : decode prog_4_method_11_code 14 = .ok (.getfield 45, 3) := by decide +kernel
theorem d_P_countAcked_17 : decode prog_4_method_11_code 17 = .ok (.iload_n 3, 1) := by decide +kernel
theorem d_P_countAcked_18 : decode prog_4_method_11_code 18 = .ok (.iaload, 1) := by decide +kernel
theorem d_P_countAcked_19 : decode prog_4_method_11_code 19 = .ok (.iload_n 1, 1) := by decide +kernel
theorem d_P_countAcked_20 : decode prog_4_method_11_code 20 = .ok (.if_icmp .lt 6, 3) := by decide +kernel
theorem d_P_countAcked_23 : decode prog_4_method_11_code 23 = .ok (.iinc 2 1, 3) := by decide +kernel
theorem d_P_countAcked_26 : decode prog_4_method_11_code 26 = .ok (.iinc 3 1, 3) := by decide +kernel
theorem d_P_countAcked_29 : decode prog_4_method_11_code 29 = .ok (.goto (-25), 3) := by decide +kernel
theorem d_P_countAcked_32 : decode prog_4_method_11_code 32 = .ok (.iload_n 2, 1) := by decide +kernel
theorem d_P_countAcked_33 : decode prog_4_method_11_code 33 = .ok (.ireturn, 1) := by decide +kernel
theorem b_P_countAcked_0 {l : Launch} {D : va_G} {cid : Nat → ClassId} {X : CT} {Post : PT} (hX : OK l D cid m_P_countAcked X Post) : SS l D cid m_P_countAcked X 0 [o_push (.int 0), o_istore 2, o_push (.int 0), o_istore 3] (FR l D cid m_P_countAcked X 4) := by
  refine SS.cons (so_iconst hX d_P_countAcked_0 (by decide)) ?_
  refine SS.cons (so_istore_n hX d_P_countAcked_1 rfl (by decide)) ?_
  refine SS.cons (so_iconst hX d_P_countAcked_2 (by decide)) ?_
  refine SS.cons (so_istore_n hX d_P_countAcked_3 rfl (by decide)) ?_
  exact SS.fall
theorem b_P_countAcked_4 {l : Launch} {D : va_G} {cid : Nat → ClassId} {X : CT} {Post : PT} (hX : OK l D cid m_P_countAcked X Post) : SS l D cid m_P_countAcked X 4 [o_iload 3, o_aload 0, o_getf 2 7, o_alen 0] (t_cmp (fun x y => y ≤ x) (FR l D cid m_P_countAcked X 32) (FR l D cid m_P_countAcked X 13)) := by
  refine SS.cons (so_iload_n hX d_P_countAcked_4 rfl) ?_
  refine SS.cons (so_aload_n hX d_P_countAcked_5 rfl) ?_
  refine SS.cons (so_getf (C := R_P) (T := T_P) hX d_P_countAcked_6 in_P rfl (by decide) k_120) ?_
  refine SS.cons (so_alen hX d_P_countAcked_9 rfl) ?_
  exact st_icmp_ge hX d_P_countAcked_10 (by decide)
theorem b_P_countAcked_13 {l : Launch} {D : va_G} {cid : Nat → ClassId} {X : CT} {Post : PT} (hX : OK l D cid m_P_countAcked X Post) : SS l D cid m_P_countAcked X 13 [o_aload 0, o_getf 2 7, o_iload 3, o_ald 0, o_iload 1] (t_cmp (fun x y => x < y) (FR l D cid m_P_countAcked X 26) (FR l D cid m_P_countAcked X 23)) := by
  refine SS.cons (so_aload_n hX d_P_countAcked_13 rfl) ?_
  refine SS.cons (so_getf (C := R_P) (T := T_P) hX d_P_countAcked_14 in_P rfl (by decide) k_120) ?_
  refine SS.cons (so_iload_n hX d_P_countAcked_17 rfl) ?_
  refine SS.cons (so_iald hX d_P_countAcked_18) ?_
  refine SS.cons (so_iload_n hX d_P_countAcked_19 rfl) ?_
  exact st_icmp_lt hX d_P_countAcked_20 (by decide)
theorem b_P_countAcked_23 {l : Launch} {D : va_G} {cid : Nat → ClassId} {X : CT} {Post : PT} (hX : OK l D cid m_P_countAcked X Post) : SS l D cid m_P_countAcked X 23 [o_iinc 2 1] (FR l D cid m_P_countAcked X 26) := by
  refine SS.cons (so_iinc hX d_P_countAcked_23 (by decide) (by decide)) ?_
  exact SS.fall
theorem b_P_countAcked_26 {l : Launch} {D : va_G} {cid : Nat → ClassId} {X : CT} {Post : PT} (hX : OK l D cid m_P_countAcked X Post) : SS l D cid m_P_countAcked X 26 [o_iinc 3 1] (FR l D cid m_P_countAcked X 4) := by
  refine SS.cons (so_iinc hX d_P_countAcked_26 (by decide) (by decide)) ?_
  exact so_goto hX d_P_countAcked_29 (by decide)
theorem b_P_countAcked_32 {l : Launch} {D : va_G} {cid : Nat → ClassId} {X : CT} {Post : PT} (hX : OK l D cid m_P_countAcked X Post) : SS l D cid m_P_countAcked X 32 [o_iload 2] (t_iret Post) := by
  refine SS.cons (so_iload_n hX d_P_countAcked_32 rfl) ?_
  exact st_iret hX d_P_countAcked_33 rfl
abbrev m_P_ackedBy : MT := (⟨"GroupLog$Replica", "ackedBy", "(I)I"⟩, prog_4_method_10_code, 4, (some FieldType.int), { frames := 1, cells := 0, slots := 0, locals := 23 })
theorem pf_P_ackedBy : plainFor m_P_ackedBy.1 = true := by decide +kernel
theorem d_P_ackedBy_0 : decode prog_4_method_10_code 0 = .ok (.aload_n 0, 1) := by decide +kernel
theorem d_P_ackedBy_1 : decode prog_4_method_10_code 1 = .ok (.getfield 28, 3) := by decide +kernel
theorem d_P_ackedBy_4 : decode prog_4_method_10_code 4 = .ok (.istore_n 2, 1) := by decide +kernel
theorem d_P_ackedBy_5 : decode prog_4_method_10_code 5 = .ok (.iconst 0, 1) := by decide +kernel
theorem d_P_ackedBy_6 : decode prog_4_method_10_code 6 = .ok (.istore_n 3, 1) := by decide +kernel
theorem d_P_ackedBy_7 : decode prog_4_method_10_code 7 = .ok (.iload_n 3, 1) := by decide +kernel
theorem d_P_ackedBy_8 : decode prog_4_method_10_code 8 = .ok (.aload_n 0, 1) := by decide +kernel
theorem d_P_ackedBy_9 : decode prog_4_method_10_code 9 = .ok (.getfield 45, 3) := by decide +kernel
theorem d_P_ackedBy_12 : decode prog_4_method_10_code 12 = .ok (.arraylength, 1) := by decide +kernel
theorem d_P_ackedBy_13 : decode prog_4_method_10_code 13 = .ok (.if_icmp .ge 40, 3) := by decide +kernel
theorem d_P_ackedBy_16 : decode prog_4_method_10_code 16 = .ok (.aload_n 0, 1) := by decide +kernel
theorem d_P_ackedBy_17 : decode prog_4_method_10_code 17 = .ok (.getfield 45, 3) := by decide +kernel
theorem d_P_ackedBy_20 : decode prog_4_method_10_code 20 = .ok (.iload_n 3, 1) := by decide +kernel
theorem d_P_ackedBy_21 : decode prog_4_method_10_code 21 = .ok (.iaload, 1) := by decide +kernel
theorem d_P_ackedBy_22 : decode prog_4_method_10_code 22 = .ok (.iload_n 2, 1) := by decide +kernel
theorem d_P_ackedBy_23 : decode prog_4_method_10_code 23 = .ok (.if_icmp .le 24, 3) := by decide +kernel
theorem d_P_ackedBy_26 : decode prog_4_method_10_code 26 = .ok (.aload_n 0, 1) := by decide +kernel
theorem d_P_ackedBy_27 : decode prog_4_method_10_code 27 = .ok (.aload_n 0, 1) := by decide +kernel
theorem d_P_ackedBy_28 : decode prog_4_method_10_code 28 = .ok (.getfield 45, 3) := by decide +kernel
theorem d_P_ackedBy_31 : decode prog_4_method_10_code 31 = .ok (.iload_n 3, 1) := by decide +kernel
theorem d_P_ackedBy_32 : decode prog_4_method_10_code 32 = .ok (.iaload, 1) := by decide +kernel
theorem d_P_ackedBy_33 : decode prog_4_method_10_code 33 = .ok (.invokevirtual 83, 3) := by decide +kernel
theorem d_P_ackedBy_36 : decode prog_4_method_10_code 36 = .ok (.iload_n 1, 1) := by decide +kernel
theorem d_P_ackedBy_37 : decode prog_4_method_10_code 37 = .ok (.if_icmp .lt 10, 3) := by decide +kernel
theorem d_P_ackedBy_40 : decode prog_4_method_10_code 40 = .ok (.aload_n 0, 1) := by decide +kernel
theorem d_P_ackedBy_41 : decode prog_4_method_10_code 41 = .ok (.getfield 45, 3) := by decide +kernel
theorem d_P_ackedBy_44 : decode prog_4_method_10_code 44 = .ok (.iload_n 3, 1) := by decide +kernel
theorem d_P_ackedBy_45 : decode prog_4_method_10_code 45 = .ok (.iaload, 1) := by decide +kernel
theorem d_P_ackedBy_46 : decode prog_4_method_10_code 46 = .ok (.istore_n 2, 1) := by decide +kernel
theorem d_P_ackedBy_47 : decode prog_4_method_10_code 47 = .ok (.iinc 3 1, 3) := by decide +kernel
theorem d_P_ackedBy_50 : decode prog_4_method_10_code 50 = .ok (.goto (-43), 3) := by decide +kernel
theorem d_P_ackedBy_53 : decode prog_4_method_10_code 53 = .ok (.iload_n 2, 1) := by decide +kernel
theorem d_P_ackedBy_54 : decode prog_4_method_10_code 54 = .ok (.ireturn, 1) := by decide +kernel
theorem b_P_ackedBy_0 {l : Launch} {D : va_G} {cid : Nat → ClassId} {X : CT} {Post : PT} (hX : OK l D cid m_P_ackedBy X Post) : SS l D cid m_P_ackedBy X 0 [o_aload 0, o_getf 2 5, o_istore 2, o_push (.int 0), o_istore 3] (FR l D cid m_P_ackedBy X 7) := by
  refine SS.cons (so_aload_n hX d_P_ackedBy_0 rfl) ?_
  refine SS.cons (so_getf (C := R_P) (T := T_P) hX d_P_ackedBy_1 in_P rfl (by decide) k_114) ?_
  refine SS.cons (so_istore_n hX d_P_ackedBy_4 rfl (by decide)) ?_
  refine SS.cons (so_iconst hX d_P_ackedBy_5 (by decide)) ?_
  refine SS.cons (so_istore_n hX d_P_ackedBy_6 rfl (by decide)) ?_
  exact SS.fall
theorem b_P_ackedBy_7 {l : Launch} {D : va_G} {cid : Nat → ClassId} {X : CT} {Post : PT} (hX : OK l D cid m_P_ackedBy X Post) : SS l D cid m_P_ackedBy X 7 [o_iload 3, o_aload 0, o_getf 2 7, o_alen 0] (t_cmp (fun x y => y ≤ x) (FR l D cid m_P_ackedBy X 53) (FR l D cid m_P_ackedBy X 16)) := by
  refine SS.cons (so_iload_n hX d_P_ackedBy_7 rfl) ?_
  refine SS.cons (so_aload_n hX d_P_ackedBy_8 rfl) ?_
  refine SS.cons (so_getf (C := R_P) (T := T_P) hX d_P_ackedBy_9 in_P rfl (by decide) k_120) ?_
  refine SS.cons (so_alen hX d_P_ackedBy_12 rfl) ?_
  exact st_icmp_ge hX d_P_ackedBy_13 (by decide)
theorem b_P_ackedBy_16 {l : Launch} {D : va_G} {cid : Nat → ClassId} {X : CT} {Post : PT} (hX : OK l D cid m_P_ackedBy X Post) : SS l D cid m_P_ackedBy X 16 [o_aload 0, o_getf 2 7, o_iload 3, o_ald 0, o_iload 2] (t_cmp (fun x y => x ≤ y) (FR l D cid m_P_ackedBy X 47) (FR l D cid m_P_ackedBy X 26)) := by
  refine SS.cons (so_aload_n hX d_P_ackedBy_16 rfl) ?_
  refine SS.cons (so_getf (C := R_P) (T := T_P) hX d_P_ackedBy_17 in_P rfl (by decide) k_120) ?_
  refine SS.cons (so_iload_n hX d_P_ackedBy_20 rfl) ?_
  refine SS.cons (so_iald hX d_P_ackedBy_21) ?_
  refine SS.cons (so_iload_n hX d_P_ackedBy_22 rfl) ?_
  exact st_icmp_le hX d_P_ackedBy_23 (by decide)
theorem b_P_ackedBy_26 {l : Launch} {D : va_G} {cid : Nat → ClassId} {X : CT} {Post : PT} (hX : OK l D cid m_P_ackedBy X Post) : SS l D cid m_P_ackedBy X 26 [o_aload 0, o_aload 0, o_getf 2 7, o_iload 3, o_ald 0, o_callV l D cid m_P_countAcked 2 1, o_iload 1] (t_cmp (fun x y => x < y) (FR l D cid m_P_ackedBy X 47) (FR l D cid m_P_ackedBy X 40)) := by
  refine SS.cons (so_aload_n hX d_P_ackedBy_26 rfl) ?_
  refine SS.cons (so_aload_n hX d_P_ackedBy_27 rfl) ?_
  refine SS.cons (so_getf (C := R_P) (T := T_P) hX d_P_ackedBy_28 in_P rfl (by decide) k_120) ?_
  refine SS.cons (so_iload_n hX d_P_ackedBy_31 rfl) ?_
  refine SS.cons (so_iald hX d_P_ackedBy_32) ?_
  refine SS.cons (so_callV (M' := m_P_countAcked) (T := T_P) hX d_P_ackedBy_33 rfl k_336 k_333 k_335 k_12 k_46 pf_P_countAcked (by decide) (by decide +kernel) ⟨by decide, by decide⟩) ?_
  refine SS.cons (so_iload_n hX d_P_ackedBy_36 rfl) ?_
  exact st_icmp_lt hX d_P_ackedBy_37 (by decide)
theorem b_P_ackedBy_40 {l : Launch} {D : va_G} {cid : Nat → ClassId} {X : CT} {Post : PT} (hX : OK l D cid m_P_ackedBy X Post) : SS l D cid m_P_ackedBy X 40 [o_aload 0, o_getf 2 7, o_iload 3, o_ald 0, o_istore 2] (FR l D cid m_P_ackedBy X 47) := by
  refine SS.cons (so_aload_n hX d_P_ackedBy_40 rfl) ?_
  refine SS.cons (so_getf (C := R_P) (T := T_P) hX d_P_ackedBy_41 in_P rfl (by decide) k_120) ?_
  refine SS.cons (so_iload_n hX d_P_ackedBy_44 rfl) ?_
  refine SS.cons (so_iald hX d_P_ackedBy_45) ?_
  refine SS.cons (so_istore_n hX d_P_ackedBy_46 rfl (by decide)) ?_
  exact SS.fall
theorem b_P_ackedBy_47 {l : Launch} {D : va_G} {cid : Nat → ClassId} {X : CT} {Post : PT} (hX : OK l D cid m_P_ackedBy X Post) : SS l D cid m_P_ackedBy X 47 [o_iinc 3 1] (FR l D cid m_P_ackedBy X 7) := by
  refine SS.cons (so_iinc hX d_P_ackedBy_47 (by decide) (by decide)) ?_
  exact so_goto hX d_P_ackedBy_50 (by decide)
theorem b_P_ackedBy_53 {l : Launch} {D : va_G} {cid : Nat → ClassId} {X : CT} {Post : PT} (hX : OK l D cid m_P_ackedBy X Post) : SS l D cid m_P_ackedBy X 53 [o_iload 2] (t_iret Post) := by
  refine SS.cons (so_iload_n hX d_P_ackedBy_53 rfl) ?_
  exact st_iret hX d_P_ackedBy_54 rfl
abbrev m_P_becomeNormal : MT := (⟨"GroupLog$Replica", "becomeNormal", "(ILGroupLog$Log;I)V"⟩, prog_4_method_12_code, 4, (none : Option FieldType), { frames := 1, cells := 0, slots := 0, locals := 21 })
theorem pf_P_becomeNormal : plainFor m_P_becomeNormal.1 = true := by decide +kernel
theorem d_P_becomeNormal_0 : decode prog_4_method_12_code 0 = .ok (.aload_n 0, 1) := by decide +kernel
theorem d_P_becomeNormal_1 : decode prog_4_method_12_code 1 = .ok (.iconst 0, 1) := by decide +kernel
theorem d_P_becomeNormal_2 : decode prog_4_method_12_code 2 = .ok (.putfield 9, 3) := by decide +kernel
theorem d_P_becomeNormal_5 : decode prog_4_method_12_code 5 = .ok (.aload_n 0, 1) := by decide +kernel
theorem d_P_becomeNormal_6 : decode prog_4_method_12_code 6 = .ok (.iload_n 1, 1) := by decide +kernel
theorem d_P_becomeNormal_7 : decode prog_4_method_12_code 7 = .ok (.putfield 15, 3) := by decide +kernel
theorem d_P_becomeNormal_10 : decode prog_4_method_12_code 10 = .ok (.aload_n 0, 1) := by decide +kernel
theorem d_P_becomeNormal_11 : decode prog_4_method_12_code 11 = .ok (.iload_n 1, 1) := by decide +kernel
theorem d_P_becomeNormal_12 : decode prog_4_method_12_code 12 = .ok (.putfield 18, 3) := by decide +kernel
theorem d_P_becomeNormal_15 : decode prog_4_method_12_code 15 = .ok (.aload_n 0, 1) := by decide +kernel
theorem d_P_becomeNormal_16 : decode prog_4_method_12_code 16 = .ok (.aload_n 2, 1) := by decide +kernel
theorem d_P_becomeNormal_17 : decode prog_4_method_12_code 17 = .ok (.putfield 24, 3) := by decide +kernel
theorem d_P_becomeNormal_20 : decode prog_4_method_12_code 20 = .ok (.aload_n 0, 1) := by decide +kernel
theorem d_P_becomeNormal_21 : decode prog_4_method_12_code 21 = .ok (.iload_n 3, 1) := by decide +kernel
theorem d_P_becomeNormal_22 : decode prog_4_method_12_code 22 = .ok (.putfield 28, 3) := by decide +kernel
theorem d_P_becomeNormal_25 : decode prog_4_method_12_code 25 = .ok (.aload_n 0, 1) := by decide +kernel
theorem d_P_becomeNormal_26 : decode prog_4_method_12_code 26 = .ok (.invokevirtual 70, 3) := by decide +kernel
theorem d_P_becomeNormal_29 : decode prog_4_method_12_code 29 = .ok (.return_, 1) := by decide +kernel
theorem b_P_becomeNormal_0 {l : Launch} {D : va_G} {cid : Nat → ClassId} {X : CT} {Post : PT} (hX : OK l D cid m_P_becomeNormal X Post) : SS l D cid m_P_becomeNormal X 0 [o_aload 0, o_push (.int 0), o_put okI 2 1, o_aload 0, o_iload 1, o_put okI 2 2, o_aload 0, o_iload 1, o_put okI 2 3, o_aload 0, o_aload 2, o_put okR 2 4, o_aload 0, o_iload 3, o_put okI 2 5, o_aload 0, o_callV l D cid m_P_forgetKept 2 0] (t_ret Post) := by
  refine SS.cons (so_aload_n hX d_P_becomeNormal_0 rfl) ?_
  refine SS.cons (so_iconst hX d_P_becomeNormal_1 (by decide)) ?_
  refine SS.cons (so_put (C := R_P) (T := T_P) ok_I hX d_P_becomeNormal_2 in_P ty_P nm_P rfl (by decide) k_104 rfl rfl) ?_
  refine SS.cons (so_aload_n hX d_P_becomeNormal_5 rfl) ?_
  refine SS.cons (so_iload_n hX d_P_becomeNormal_6 rfl) ?_
  refine SS.cons (so_put (C := R_P) (T := T_P) ok_I hX d_P_becomeNormal_7 in_P ty_P nm_P rfl (by decide) k_106 rfl rfl) ?_
  refine SS.cons (so_aload_n hX d_P_becomeNormal_10 rfl) ?_
  refine SS.cons (so_iload_n hX d_P_becomeNormal_11 rfl) ?_
  refine SS.cons (so_put (C := R_P) (T := T_P) ok_I hX d_P_becomeNormal_12 in_P ty_P nm_P rfl (by decide) k_109 rfl rfl) ?_
  refine SS.cons (so_aload_n hX d_P_becomeNormal_15 rfl) ?_
  refine SS.cons (so_aload_n hX d_P_becomeNormal_16 rfl) ?_
  refine SS.cons (so_put (C := R_P) (T := T_P) (ok_O _) hX d_P_becomeNormal_17 in_P ty_P nm_P rfl (by decide) k_111 rfl rfl) ?_
  refine SS.cons (so_aload_n hX d_P_becomeNormal_20 rfl) ?_
  refine SS.cons (so_iload_n hX d_P_becomeNormal_21 rfl) ?_
  refine SS.cons (so_put (C := R_P) (T := T_P) ok_I hX d_P_becomeNormal_22 in_P ty_P nm_P rfl (by decide) k_114 rfl rfl) ?_
  refine SS.cons (so_aload_n hX d_P_becomeNormal_25 rfl) ?_
  refine SS.cons (so_callV (M' := m_P_forgetKept) (T := T_P) hX d_P_becomeNormal_26 rfl k_356 k_353 k_354 k_355 k_46 pf_P_forgetKept (by decide) (by decide +kernel) ⟨by decide, by decide⟩) ?_
  exact st_ret hX d_P_becomeNormal_29 rfl
abbrev m_P_becomePrimary : MT := (⟨"GroupLog$Replica", "becomePrimary", "()V"⟩, prog_4_method_13_code, 7, (none : Option FieldType), { frames := 2, cells := 0, slots := 0, locals := 44 })
theorem pf_P_becomePrimary : plainFor m_P_becomePrimary.1 = true := by decide +kernel
theorem d_P_becomePrimary_0 : decode prog_4_method_13_code 0 = .ok (.aload_n 0, 1) := by decide +kernel
theorem d_P_becomePrimary_1 : decode prog_4_method_13_code 1 = .ok (.getfield 24, 3) := by decide +kernel
theorem d_P_becomePrimary_4 : decode prog_4_method_13_code 4 = .ok (.astore_n 1, 1) := by decide +kernel
theorem d_P_becomePrimary_5 : decode prog_4_method_13_code 5 = .ok (.aload_n 0, 1) := by decide +kernel
theorem d_P_becomePrimary_6 : decode prog_4_method_13_code 6 = .ok (.getfield 18, 3) := by decide +kernel
theorem d_P_becomePrimary_9 : decode prog_4_method_13_code 9 = .ok (.istore_n 2, 1) := by decide +kernel
theorem d_P_becomePrimary_10 : decode prog_4_method_13_code 10 = .ok (.aload_n 0, 1) := by decide +kernel
theorem d_P_becomePrimary_11 : decode prog_4_method_13_code 11 = .ok (.getfield 28, 3) := by decide +kernel
theorem d_P_becomePrimary_14 : decode prog_4_method_13_code 14 = .ok (.istore_n 3, 1) := by decide +kernel
theorem d_P_becomePrimary_15 : decode prog_4_method_13_code 15 = .ok (.iconst 0, 1) := by decide +kernel
theorem d_P_becomePrimary_16 : decode prog_4_method_13_code 16 = .ok (.istore 4, 2) := by decide +kernel
theorem d_P_becomePrimary_18 : decode prog_4_method_13_code 18 = .ok (.iload 4, 2) := by decide +kernel
theorem d_P_becomePrimary_20 : decode prog_4_method_13_code 20 = .ok (.aload_n 0, 1) := by decide +kernel
theorem d_P_becomePrimary_21 : decode prog_4_method_13_code 21 = .ok (.getfield 54, 3) := by decide +kernel
theorem d_P_becomePrimary_24 : decode prog_4_method_13_code 24 = .ok (.arraylength, 1) := by decide +kernel
theorem d_P_becomePrimary_25 : decode prog_4_method_13_code 25 = .ok (.if_icmp .ge 93, 3) := by decide +kernel
theorem d_P_becomePrimary_28 : decode prog_4_method_13_code 28 = .ok (.aload_n 0, 1) := by decide +kernel
theorem d_P_becomePrimary_29 : decode prog_4_method_13_code 29 = .ok (.getfield 54, 3) := by decide +kernel
theorem d_P_becomePrimary_32 : decode prog_4_method_13_code 32 = .ok (.iload 4, 2) := by decide +kernel
theorem d_P_becomePrimary_34 : decode prog_4_method_13_code 34 = .ok (.aaload, 1) := by decide +kernel
theorem d_P_becomePrimary_35 : decode prog_4_method_13_code 35 = .ok (.astore 5, 2) := by decide +kernel
theorem d_P_becomePrimary_37 : decode prog_4_method_13_code 37 = .ok (.aload 5, 2) := by decide +kernel
theorem d_P_becomePrimary_39 : decode prog_4_method_13_code 39 = .ok (.ifnonnull 6, 3) := by decide +kernel
theorem d_P_becomePrimary_42 : decode prog_4_method_13_code 42 = .ok (.goto 70, 3) := by decide +kernel
theorem d_P_becomePrimary_45 : decode prog_4_method_13_code 45 = .ok (.aload 5, 2) := by decide +kernel
theorem d_P_becomePrimary_47 : decode prog_4_method_13_code 47 = .ok (.getfield 87, 3) := by decide +kernel
theorem d_P_becomePrimary_50 : decode prog_4_method_13_code 50 = .ok (.iload_n 2, 1) := by decide +kernel
theorem d_P_becomePrimary_51 : decode prog_4_method_13_code 51 = .ok (.if_icmp .ne 22, 3) := by decide +kernel
theorem d_P_becomePrimary_54 : decode prog_4_method_13_code 54 = .ok (.aload 5, 2) := by decide +kernel
theorem d_P_becomePrimary_56 : decode prog_4_method_13_code 56 = .ok (.getfield 88, 3) := by decide +kernel
theorem d_P_becomePrimary_59 : decode prog_4_method_13_code 59 = .ok (.getfield 89, 3) := by decide +kernel
theorem d_P_becomePrimary_62 : decode prog_4_method_13_code 62 = .ok (.aload_n 1, 1) := by decide +kernel
theorem d_P_becomePrimary_63 : decode prog_4_method_13_code 63 = .ok (.getfield 89, 3) := by decide +kernel
theorem d_P_becomePrimary_66 : decode prog_4_method_13_code 66 = .ok (.if_icmp .le 7, 3) := by decide +kernel
theorem d_P_becomePrimary_69 : decode prog_4_method_13_code 69 = .ok (.iconst 1, 1) := by decide +kernel
theorem d_P_becomePrimary_70 : decode prog_4_method_13_code 70 = .ok (.goto 4, 3) := by decide +kernel
theorem d_P_becomePrimary_73 : decode prog_4_method_13_code 73 = .ok (.iconst 0, 1) := by decide +kernel
theorem d_P_becomePrimary_74 : decode prog_4_method_13_code 74 = .ok (.istore 6, 2) := by decide +kernel
theorem d_P_becomePrimary_76 : decode prog_4_method_13_code 76 = .ok (.aload 5, 2) := by decide +kernel
theorem d_P_becomePrimary_78 : decode prog_4_method_13_code 78 = .ok (.getfield 87, 3) := by decide +kernel
theorem d_P_becomePrimary_81 : decode prog_4_method_13_code 81 = .ok (.iload_n 2, 1) := by decide +kernel
theorem d_P_becomePrimary_82 : decode prog_4_method_13_code 82 = .ok (.if_icmp .gt 8, 3) := by decide +kernel
theorem d_P_becomePrimary_85 : decode prog_4_method_13_code 85 = .ok (.iload 6, 2) := by decide +kernel
theorem d_P_becomePrimary_87 : decode prog_4_method_13_code 87 = .ok (.ifCond .eq 15, 3) := by decide +kernel
theorem d_P_becomePrimary_90 : decode prog_4_method_13_code 90 = .ok (.aload 5, 2) := by decide +kernel
theorem d_P_becomePrimary_92 : decode prog_4_method_13_code 92 = .ok (.getfield 88, 3) := by decide +kernel
theorem d_P_becomePrimary_95 : decode prog_4_method_13_code 95 = .ok (.astore_n 1, 1) := by decide +kernel
theorem d_P_becomePrimary_96 : decode prog_4_method_13_code 96 = .ok (.aload 5, 2) := by decide +kernel
theorem d_P_becomePrimary_98 : decode prog_4_method_13_code 98 = .ok (.getfield 87, 3) := by decide +kernel
theorem d_P_becomePrimary_101 : decode prog_4_method_13_code 101 = .ok (.istore_n 2, 1) := by decide +kernel
theorem d_P_becomePrimary_102 : decode prog_4_method_13_code 102 = .ok (.iload_n 3, 1) := by decide +kernel
theorem d_P_becomePrimary_103 : decode prog_4_method_13_code 103 = .ok (.aload 5, 2) := by decide +kernel
theorem d_P_becomePrimary_105 : decode prog_4_method_13_code 105 = .ok (.getfield 92, 3) := by decide +kernel
theorem d_P_becomePrimary_108 : decode prog_4_method_13_code 108 = .ok (.invokestatic 61, 3) := by decide +kernel
theorem d_P_becomePrimary_111 : decode prog_4_method_13_code 111 = .ok (.istore_n 3, 1) := by decide +kernel
theorem d_P_becomePrimary_112 : decode prog_4_method_13_code 112 = .ok (.iinc 4 1, 3) := by decide +kernel
theorem d_P_becomePrimary_115 : decode prog_4_method_13_code 115 = .ok (.goto (-97), 3) := by decide +kernel
theorem d_P_becomePrimary_118 : decode prog_4_method_13_code 118 = .ok (.aload_n 0, 1) := by decide +kernel
theorem d_P_becomePrimary_119 : decode prog_4_method_13_code 119 = .ok (.invokevirtual 67, 3) := by decide +kernel
theorem d_P_becomePrimary_122 : decode prog_4_method_13_code 122 = .ok (.aload_n 0, 1) := by decide +kernel
theorem d_P_becomePrimary_123 : decode prog_4_method_13_code 123 = .ok (.aload_n 0, 1) := by decide +kernel
theorem d_P_becomePrimary_124 : decode prog_4_method_13_code 124 = .ok (.getfield 15, 3) := by decide +kernel
theorem d_P_becomePrimary_127 : decode prog_4_method_13_code 127 = .ok (.aload_n 1, 1) := by decide +kernel
theorem d_P_becomePrimary_128 : decode prog_4_method_13_code 128 = .ok (.iload_n 3, 1) := by decide +kernel
theorem d_P_becomePrimary_129 : decode prog_4_method_13_code 129 = .ok (.invokevirtual 93, 3) := by decide +kernel
theorem d_P_becomePrimary_132 : decode prog_4_method_13_code 132 = .ok (.return_, 1) := by decide +kernel
theorem b_P_becomePrimary_0 {l : Launch} {D : va_G} {cid : Nat → ClassId} {X : CT} {Post : PT} (hX : OK l D cid m_P_becomePrimary X Post) : SS l D cid m_P_becomePrimary X 0 [o_aload 0, o_getf 2 4, o_astore 1, o_aload 0, o_getf 2 3, o_istore 2, o_aload 0, o_getf 2 5, o_istore 3, o_push (.int 0), o_istore 4] (FR l D cid m_P_becomePrimary X 18) := by
  refine SS.cons (so_aload_n hX d_P_becomePrimary_0 rfl) ?_
  refine SS.cons (so_getf (C := R_P) (T := T_P) hX d_P_becomePrimary_1 in_P rfl (by decide) k_111) ?_
  refine SS.cons (so_astore_n hX d_P_becomePrimary_4 rfl (by decide)) ?_
  refine SS.cons (so_aload_n hX d_P_becomePrimary_5 rfl) ?_
  refine SS.cons (so_getf (C := R_P) (T := T_P) hX d_P_becomePrimary_6 in_P rfl (by decide) k_109) ?_
  refine SS.cons (so_istore_n hX d_P_becomePrimary_9 rfl (by decide)) ?_
  refine SS.cons (so_aload_n hX d_P_becomePrimary_10 rfl) ?_
  refine SS.cons (so_getf (C := R_P) (T := T_P) hX d_P_becomePrimary_11 in_P rfl (by decide) k_114) ?_
  refine SS.cons (so_istore_n hX d_P_becomePrimary_14 rfl (by decide)) ?_
  refine SS.cons (so_iconst hX d_P_becomePrimary_15 (by decide)) ?_
  refine SS.cons (so_istore hX d_P_becomePrimary_16 (by decide)) ?_
  exact SS.fall
theorem b_P_becomePrimary_18 {l : Launch} {D : va_G} {cid : Nat → ClassId} {X : CT} {Post : PT} (hX : OK l D cid m_P_becomePrimary X Post) : SS l D cid m_P_becomePrimary X 18 [o_iload 4, o_aload 0, o_getf 2 10, o_alenq 2] (t_cmp (fun x y => y ≤ x) (FR l D cid m_P_becomePrimary X 118) (FR l D cid m_P_becomePrimary X 28)) := by
  refine SS.cons (so_iload hX d_P_becomePrimary_18) ?_
  refine SS.cons (so_aload_n hX d_P_becomePrimary_20 rfl) ?_
  refine SS.cons (so_getf (C := R_P) (T := T_P) hX d_P_becomePrimary_21 in_P rfl (by decide) k_126) ?_
  refine SS.cons (so_alenq hX d_P_becomePrimary_24 rfl) ?_
  exact st_icmp_ge hX d_P_becomePrimary_25 (by decide)
theorem b_P_becomePrimary_28 {l : Launch} {D : va_G} {cid : Nat → ClassId} {X : CT} {Post : PT} (hX : OK l D cid m_P_becomePrimary X Post) : SS l D cid m_P_becomePrimary X 28 [o_aload 0, o_getf 2 10, o_iload 4, o_aldq 2, o_astore 5, o_aload 5] (t_null (FR l D cid m_P_becomePrimary X 42) (FR l D cid m_P_becomePrimary X 45)) := by
  refine SS.cons (so_aload_n hX d_P_becomePrimary_28 rfl) ?_
  refine SS.cons (so_getf (C := R_P) (T := T_P) hX d_P_becomePrimary_29 in_P rfl (by decide) k_126) ?_
  refine SS.cons (so_iload hX d_P_becomePrimary_32) ?_
  refine SS.cons (so_aldq hX d_P_becomePrimary_34 rfl) ?_
  refine SS.cons (so_astore hX d_P_becomePrimary_35 (by decide)) ?_
  refine SS.cons (so_aload hX d_P_becomePrimary_37) ?_
  exact st_ifnonnull hX d_P_becomePrimary_39 (by decide)
theorem b_P_becomePrimary_42 {l : Launch} {D : va_G} {cid : Nat → ClassId} {X : CT} {Post : PT} (hX : OK l D cid m_P_becomePrimary X Post) : SS l D cid m_P_becomePrimary X 42 [] (FR l D cid m_P_becomePrimary X 112) := by
  exact so_goto hX d_P_becomePrimary_42 (by decide)
theorem b_P_becomePrimary_45 {l : Launch} {D : va_G} {cid : Nat → ClassId} {X : CT} {Post : PT} (hX : OK l D cid m_P_becomePrimary X Post) : SS l D cid m_P_becomePrimary X 45 [o_aload 5, o_getf 1 4, o_iload 2] (t_cmp (fun x y => ¬ x = y) (FR l D cid m_P_becomePrimary X 73) (FR l D cid m_P_becomePrimary X 54)) := by
  refine SS.cons (so_aload hX d_P_becomePrimary_45) ?_
  refine SS.cons (so_getf (C := R_E) (T := T_E) hX d_P_becomePrimary_47 in_E rfl (by decide) k_252) ?_
  refine SS.cons (so_iload_n hX d_P_becomePrimary_50 rfl) ?_
  exact st_icmp_ne hX d_P_becomePrimary_51 (by decide)
theorem b_P_becomePrimary_54 {l : Launch} {D : va_G} {cid : Nat → ClassId} {X : CT} {Post : PT} (hX : OK l D cid m_P_becomePrimary X Post) : SS l D cid m_P_becomePrimary X 54 [o_aload 5, o_getf 1 6, o_getf 0 1, o_aload 1, o_getf 0 1] (t_cmp (fun x y => x ≤ y) (FR l D cid m_P_becomePrimary X 73) (FR l D cid m_P_becomePrimary X 69)) := by
  refine SS.cons (so_aload hX d_P_becomePrimary_54) ?_
  refine SS.cons (so_getf (C := R_E) (T := T_E) hX d_P_becomePrimary_56 in_E rfl (by decide) k_257) ?_
  refine SS.cons (so_getf (C := R_L) (T := T_L) hX d_P_becomePrimary_59 in_L rfl (by decide) k_77) ?_
  refine SS.cons (so_aload_n hX d_P_becomePrimary_62 rfl) ?_
  refine SS.cons (so_getf (C := R_L) (T := T_L) hX d_P_becomePrimary_63 in_L rfl (by decide) k_77) ?_
  exact st_icmp_le hX d_P_becomePrimary_66 (by decide)
theorem b_P_becomePrimary_69 {l : Launch} {D : va_G} {cid : Nat → ClassId} {X : CT} {Post : PT} (hX : OK l D cid m_P_becomePrimary X Post) : SS l D cid m_P_becomePrimary X 69 [o_push (.int 1)] (FR l D cid m_P_becomePrimary X 74) := by
  refine SS.cons (so_iconst hX d_P_becomePrimary_69 (by decide)) ?_
  exact so_goto hX d_P_becomePrimary_70 (by decide)
theorem b_P_becomePrimary_73 {l : Launch} {D : va_G} {cid : Nat → ClassId} {X : CT} {Post : PT} (hX : OK l D cid m_P_becomePrimary X Post) : SS l D cid m_P_becomePrimary X 73 [o_push (.int 0)] (FR l D cid m_P_becomePrimary X 74) := by
  refine SS.cons (so_iconst hX d_P_becomePrimary_73 (by decide)) ?_
  exact SS.fall
theorem b_P_becomePrimary_74 {l : Launch} {D : va_G} {cid : Nat → ClassId} {X : CT} {Post : PT} (hX : OK l D cid m_P_becomePrimary X Post) : SS l D cid m_P_becomePrimary X 74 [o_istore 6, o_aload 5, o_getf 1 4, o_iload 2] (t_cmp (fun x y => y < x) (FR l D cid m_P_becomePrimary X 90) (FR l D cid m_P_becomePrimary X 85)) := by
  refine SS.cons (so_istore hX d_P_becomePrimary_74 (by decide)) ?_
  refine SS.cons (so_aload hX d_P_becomePrimary_76) ?_
  refine SS.cons (so_getf (C := R_E) (T := T_E) hX d_P_becomePrimary_78 in_E rfl (by decide) k_252) ?_
  refine SS.cons (so_iload_n hX d_P_becomePrimary_81 rfl) ?_
  exact st_icmp_gt hX d_P_becomePrimary_82 (by decide)
theorem b_P_becomePrimary_85 {l : Launch} {D : va_G} {cid : Nat → ClassId} {X : CT} {Post : PT} (hX : OK l D cid m_P_becomePrimary X Post) : SS l D cid m_P_becomePrimary X 85 [o_iload 6] (t_if (fun x => x = 0) (FR l D cid m_P_becomePrimary X 102) (FR l D cid m_P_becomePrimary X 90)) := by
  refine SS.cons (so_iload hX d_P_becomePrimary_85) ?_
  exact st_if_eq hX d_P_becomePrimary_87 (by decide)
theorem b_P_becomePrimary_90 {l : Launch} {D : va_G} {cid : Nat → ClassId} {X : CT} {Post : PT} (hX : OK l D cid m_P_becomePrimary X Post) : SS l D cid m_P_becomePrimary X 90 [o_aload 5, o_getf 1 6, o_astore 1, o_aload 5, o_getf 1 4, o_istore 2] (FR l D cid m_P_becomePrimary X 102) := by
  refine SS.cons (so_aload hX d_P_becomePrimary_90) ?_
  refine SS.cons (so_getf (C := R_E) (T := T_E) hX d_P_becomePrimary_92 in_E rfl (by decide) k_257) ?_
  refine SS.cons (so_astore_n hX d_P_becomePrimary_95 rfl (by decide)) ?_
  refine SS.cons (so_aload hX d_P_becomePrimary_96) ?_
  refine SS.cons (so_getf (C := R_E) (T := T_E) hX d_P_becomePrimary_98 in_E rfl (by decide) k_252) ?_
  refine SS.cons (so_istore_n hX d_P_becomePrimary_101 rfl (by decide)) ?_
  exact SS.fall
theorem b_P_becomePrimary_102 {l : Launch} {D : va_G} {cid : Nat → ClassId} {X : CT} {Post : PT} (hX : OK l D cid m_P_becomePrimary X Post) : SS l D cid m_P_becomePrimary X 102 [o_iload 3, o_aload 5, o_getf 1 7, o_callS l D cid m_J_max 2, o_istore 3] (FR l D cid m_P_becomePrimary X 112) := by
  refine SS.cons (so_iload_n hX d_P_becomePrimary_102 rfl) ?_
  refine SS.cons (so_aload hX d_P_becomePrimary_103) ?_
  refine SS.cons (so_getf (C := R_E) (T := T_E) hX d_P_becomePrimary_105 in_E rfl (by decide) k_260) ?_
  refine SS.cons (so_callS (M' := m_J_max) hX d_P_becomePrimary_108 k_212 k_308 k_211 k_49 pf_J_max (by decide) (by decide +kernel) ⟨by decide, by decide⟩) ?_
  refine SS.cons (so_istore_n hX d_P_becomePrimary_111 rfl (by decide)) ?_
  exact SS.fall
theorem b_P_becomePrimary_112 {l : Launch} {D : va_G} {cid : Nat → ClassId} {X : CT} {Post : PT} (hX : OK l D cid m_P_becomePrimary X Post) : SS l D cid m_P_becomePrimary X 112 [o_iinc 4 1] (FR l D cid m_P_becomePrimary X 18) := by
  refine SS.cons (so_iinc hX d_P_becomePrimary_112 (by decide) (by decide)) ?_
  exact so_goto hX d_P_becomePrimary_115 (by decide)
theorem b_P_becomePrimary_118 {l : Launch} {D : va_G} {cid : Nat → ClassId} {X : CT} {Post : PT} (hX : OK l D cid m_P_becomePrimary X Post) : SS l D cid m_P_becomePrimary X 118 [o_aload 0, o_callV l D cid m_P_forgetAcked 2 0, o_aload 0, o_aload 0, o_getf 2 2, o_aload 1, o_iload 3, o_callV l D cid m_P_becomeNormal 2 3] (t_ret Post) := by
  refine SS.cons (so_aload_n hX d_P_becomePrimary_118 rfl) ?_
  refine SS.cons (so_callV (M' := m_P_forgetAcked) (T := T_P) hX d_P_becomePrimary_119 rfl k_384 k_381 k_382 k_383 k_46 pf_P_forgetAcked (by decide) (by decide +kernel) ⟨by decide, by decide⟩) ?_
  refine SS.cons (so_aload_n hX d_P_becomePrimary_122 rfl) ?_
  refine SS.cons (so_aload_n hX d_P_becomePrimary_123 rfl) ?_
  refine SS.cons (so_getf (C := R_P) (T := T_P) hX d_P_becomePrimary_124 in_P rfl (by decide) k_106) ?_
  refine SS.cons (so_aload_n hX d_P_becomePrimary_127 rfl) ?_
  refine SS.cons (so_iload_n hX d_P_becomePrimary_128 rfl) ?_
  refine SS.cons (so_callV (M' := m_P_becomeNormal) (T := T_P) hX d_P_becomePrimary_129 rfl k_352 k_385 k_350 k_351 k_46 pf_P_becomeNormal (by decide) (by decide +kernel) ⟨by decide, by decide⟩) ?_
  exact st_ret hX d_P_becomePrimary_132 rfl
end
section
section SPP
variable {l : Launch} {D : va_G} {cid : Nat → ClassId} {Z : Nat → Prop} {f : HF} {A : Nat → Nat} {N i : Nat} {cs : Nat → PC} {R : RS}
theorem sp_count {F : HF} {a : Nat} {g : Nat → Option Nat} {km : KM} (hN : N ≤ 5) (hg : F a = some (.inr (.inr (2, N, g)))) (ho : ∀ t, t < N → OptR Z F N (g t) (km t)) : CS l D cid m_P_count [.ref a] F (fun v f' => v = some (.int (cnt km N)) ∧ f' = F) := by
  intro X hX
  have loop : ∀ t, t ≤ N → ∀ bc bs, FR l D cid m_P_count X 4 [some (.ref a), some (.int (cnt km t)), some (.int (nI t))] [] F bc bs := by
    refine up_to ?_ ?_
    · intro bc bs
      refine b_P_count_4 hX _ _ _ _ _ (i_iload rfl <| i_aload rfl <| i_alenq hg <| i_cmp_t (Int32.le_refl _) ?_)
      refine b_P_count_25 hX _ _ _ _ _ (i_iload rfl <| i_iret ?_)
      exact ⟨rfl, rfl⟩
    · intro t ht ih bc bs
      refine b_P_count_4 hX _ _ _ _ _ (i_iload rfl <| i_aload rfl <| i_alenq hg <| i_cmp_f (nI_ge ht (by omega)) ?_)
      have h19 : ∀ x, x = cnt km (t + 1) → ∀ bc bs, FR l D cid m_P_count X 19 [some (.ref a), some (.int x), some (.int (nI t))] [] F bc bs := by
        intro x hx bc bs
        refine b_P_count_19 hX _ _ _ _ _ (i_iinc rfl <| i_end ?_)
        have h := ih bc bs
        rw [nI_succ, ← hx] at h
        exact h
      have hot := ho t ht
      refine b_P_count_10 hX _ _ _ _ _ (i_aload rfl <| i_iload rfl <| i_aldq hg ⟨rfl, ht, by omega⟩ <| i_null_v ?_ ?_)
      · intro hn
        refine h19 _ ?_ _ _
        rw [hn] at hot
        cases hk : km t with
        | none => simp [cnt, hk]
        | some m => rw [hk] at hot; exact hot.elim
      · intro q hq
        refine b_P_count_16 hX _ _ _ _ _ (i_iinc rfl <| i_end ?_)
        refine h19 _ ?_ _ _
        rw [hq] at hot
        cases hk : km t with
        | none => rw [hk] at hot; exact hot.elim
        | some m => simp [cnt, hk]
  refine b_P_count_0 hX _ _ _ _ _ (i_push <| i_istore <| i_push <| i_istore <| i_end ?_)
  exact loop 0 (Nat.zero_le _) _ _
theorem sp_greatestView {F : HF} {a : Nat} {g : Nat → Option Nat} {km : KM} (hN : N ≤ 5) (hg : F a = some (.inr (.inr (2, N, g)))) (ho : ∀ t, t < N → OptR Z F N (g t) (km t)) : CS l D cid m_P_greatestView [.ref a] F (fun v f' => v = some (.int (gvw km N)) ∧ f' = F) := by
  intro X hX
  have loop : ∀ t, t ≤ N → ∀ bc bs, FR l D cid m_P_greatestView X 4 [some (.ref a), some (.int (gvw km t)), some (.int (nI t))] [] F bc bs := by
    refine up_to ?_ ?_
    · intro bc bs
      refine b_P_greatestView_4 hX _ _ _ _ _ (i_iload rfl <| i_aload rfl <| i_alenq hg <| i_cmp_t (Int32.le_refl _) ?_)
      refine b_P_greatestView_33 hX _ _ _ _ _ (i_iload rfl <| i_iret ?_)
      exact ⟨rfl, rfl⟩
    · intro t ht ih bc bs
      refine b_P_greatestView_4 hX _ _ _ _ _ (i_iload rfl <| i_aload rfl <| i_alenq hg <| i_cmp_f (nI_ge ht (by omega)) ?_)
      have h27 : ∀ x, x = gvw km (t + 1) → ∀ bc bs, FR l D cid m_P_greatestView X 27 [some (.ref a), some (.int x), some (.int (nI t))] [] F bc bs := by
        intro x hx bc bs
        refine b_P_greatestView_27 hX _ _ _ _ _ (i_iinc rfl <| i_end ?_)
        have h := ih bc bs
        rw [nI_succ, ← hx] at h
        exact h
      have hot := ho t ht
      refine b_P_greatestView_10 hX _ _ _ _ _ (i_aload rfl <| i_iload rfl <| i_aldq hg ⟨rfl, ht, by omega⟩ <| i_null_v ?_ ?_)
      · intro hn
        refine h27 _ ?_ _ _
        rw [hn] at hot
        cases hk : km t with
        | none => simp [gvw, hk]
        | some m => rw [hk] at hot; exact hot.elim
      · intro q hq
        rw [hq] at hot
        cases hk : km t with
        | none => rw [hk] at hot; exact hot.elim
        | some m =>
          rw [hk] at hot
          obtain ⟨hz, va, la, h1, h2⟩ := hot
          refine b_P_greatestView_16 hX _ _ _ _ _ (i_iload rfl <| i_aload rfl <| i_iload rfl <| i_aldq' hg (⟨⟨rfl, ht, by omega⟩, congrArg va_rf hq⟩) <| i_getf h1 rfl <| j_rdS (sp_max) rfl rfl <| i_istore <| i_end ?_)
          refine h27 _ ?_ _ _
          simp [gvw, hk]
  refine b_P_greatestView_0 hX _ _ _ _ _ (i_push <| i_istore <| i_push <| i_istore <| i_end ?_)
  exact loop 0 (Nat.zero_le _) _ _
theorem sp_forgetAcked {la va : Nat} {g : Nat → Int32} (hA : AI (5 + 5 * N) A) (hi : i < N) (hN : N ≤ 5) (ho : cs (5 + 5 * i) = .inl (2, robj A i la va R)) (hg : cs (6 + 5 * i) = .inr (.inl (0, N, g))) :
    CS l D cid m_P_forgetAcked [.ref (A (5 + 5 * i))] (hC (5 + 5 * N) A f cs) (fun v f' => v = none ∧ ∃ g', f' = hC (5 + 5 * N) A f (va_up cs (6 + 5 * i) (.inr (.inl (0, N, g')))) ∧ ∀ t, t < N → g' t = 0) := by
  intro X hX
  have h5 : 5 + 5 * i < 5 + 5 * N := by omega
  have h10 : 6 + 5 * i < 5 + 5 * N := by omega
  have loop : ∀ t, t ≤ N → ∀ g1 : Nat → Int32, (∀ s, s < t → g1 s = 0) → ∀ bc bs, FR l D cid m_P_forgetAcked X 2 [some (.ref (A (5 + 5 * i))), some (.int (nI t))] [] (hC (5 + 5 * N) A f (va_up cs (6 + 5 * i) (.inr (.inl (0, N, g1))))) bc bs := by
    refine up_to ?_ ?_
    · intro g1 hg1 bc bs
      refine b_P_forgetAcked_2 hX _ _ _ _ _ (i_iload rfl <| i_aload rfl <| i_getf (c_cell hA h5 ((va_n (by omega)).trans ho)) rfl <| i_alen (c_cell hA h10 (va_s _ _ _)) <| i_cmp_t (Int32.le_refl _) ?_)
      refine b_P_forgetAcked_24 hX _ _ _ _ _ (i_ret ?_)
      exact ⟨rfl, g1, rfl, hg1⟩
    · intro t ht ih g1 hg1 bc bs
      simp only [nI_succ] at ih
      refine b_P_forgetAcked_2 hX _ _ _ _ _ (i_iload rfl <| i_aload rfl <| i_getf (c_cell hA h5 ((va_n (by omega)).trans ho)) rfl <| i_alen (c_cell hA h10 (va_s _ _ _)) <| i_cmp_f (nI_ge ht (by omega)) ?_)
      refine b_P_forgetAcked_11 hX _ _ _ _ _ (i_aload rfl <| i_getf (c_cell hA h5 ((va_n (by omega)).trans ho)) rfl <| i_iload rfl <| i_push <| c_ast hA h10 (va_s _ _ _) ⟨rfl, ht, by omega⟩ <| i_iinc rfl <| i_end ?_)
      rw [va_va]
      refine ih (upd g1 t 0) (fun s hs => ?_) _ _
      by_cases e : s = t
      · rw [e, upd_s]
      · rw [upd_n e]
        exact hg1 s (by omega)
  refine b_P_forgetAcked_0 hX _ _ _ _ _ (i_push <| i_istore <| i_end ?_)
  have h := loop 0 (Nat.zero_le _) g (fun s hs => by omega)
  rw [va_id hg] at h
  exact h _ _
def NoK (cs : Nat → PC) (N k : Nat) : Prop := ∃ g : Nat → Option Nat, cs k = .inr (.inr (2, N, g)) ∧ ∀ t, t < N → g t = none
theorem no_s {g : Nat → Option Nat} {t : Nat} (h : ∀ s, s < t → g s = none) : ∀ s, s < t + 1 → va_up g t none s = none := by
  intro s hs
  by_cases e : s = t
  · rw [e, va_s]
  · rw [va_n e]
    exact h s (by omega)
theorem NoK.kep {Z : Nat → Prop} {f : HF} {cs : Nat → PC} {N k : Nat} (h : NoK cs N k) : KepC Z f cs N k noK := by
  obtain ⟨g, h1, h2⟩ := h
  exact ⟨g, h1, fun t ht => by rw [h2 t ht]; exact trivial⟩
theorem sp_forgetKept {la va : Nat} {g1 g2 g3 : Nat → Option Nat} (hA : AI (5 + 5 * N) A) (hi : i < N) (hN : N ≤ 5) (ho : cs (5 + 5 * i) = .inl (2, robj A i la va R)) (k1 : cs (7 + 5 * i) = .inr (.inr (2, N, g1))) (k2 : cs (8 + 5 * i) = .inr (.inr (2, N, g2))) (k3 : cs (9 + 5 * i) = .inr (.inr (2, N, g3))) :
    CS l D cid m_P_forgetKept [.ref (A (5 + 5 * i))] (hC (5 + 5 * N) A f cs) (fun v f' => v = none ∧ ∃ cs', f' = hC (5 + 5 * N) A f cs' ∧ (∀ k, k ≠ 7 + 5 * i → k ≠ 8 + 5 * i → k ≠ 9 + 5 * i → cs' k = cs k) ∧ NoK cs' N (7 + 5 * i) ∧ NoK cs' N (8 + 5 * i) ∧ NoK cs' N (9 + 5 * i)) := by
  intro X hX
  have h5 : 5 + 5 * i < 5 + 5 * N := by omega
  have h15 : 7 + 5 * i < 5 + 5 * N := by omega
  have h20 : 8 + 5 * i < 5 + 5 * N := by omega
  have h25 : 9 + 5 * i < 5 + 5 * N := by omega
  have loop : ∀ t, t ≤ N → ∀ (cs1 : Nat → PC) (f1 f2 f3 : Nat → Option Nat), (∀ k, k ≠ 7 + 5 * i → k ≠ 8 + 5 * i → k ≠ 9 + 5 * i → cs1 k = cs k) → cs1 (7 + 5 * i) = .inr (.inr (2, N, f1)) → (∀ s, s < t → f1 s = none) → cs1 (8 + 5 * i) = .inr (.inr (2, N, f2)) → (∀ s, s < t → f2 s = none) → cs1 (9 + 5 * i) = .inr (.inr (2, N, f3)) → (∀ s, s < t → f3 s = none) →
      ∀ bc bs, FR l D cid m_P_forgetKept X 2 [some (.ref (A (5 + 5 * i))), some (.int (nI t))] [] (hC (5 + 5 * N) A f cs1) bc bs := by
    refine up_to ?_ ?_
    · intro cs1 f1 f2 f3 hs e1 n1 e2 n2 e3 n3 bc bs
      have ho1 : cs1 (5 + 5 * i) = .inl (2, robj A i la va R) := (hs _ (by omega) (by omega) (by omega)).trans ho
      refine b_P_forgetKept_2 hX _ _ _ _ _ (i_iload rfl <| i_aload rfl <| i_getf (c_cell hA h5 ho1) rfl <| i_alenq (c_cell hA h15 e1) <| i_cmp_t (Int32.le_refl _) ?_)
      refine b_P_forgetKept_38 hX _ _ _ _ _ (i_ret ?_)
      exact ⟨rfl, cs1, rfl, hs, ⟨f1, e1, n1⟩, ⟨f2, e2, n2⟩, ⟨f3, e3, n3⟩⟩
    · intro t ht ih cs1 f1 f2 f3 hs e1 n1 e2 n2 e3 n3 bc bs
      simp only [nI_succ] at ih
      have ho1 : cs1 (5 + 5 * i) = .inl (2, robj A i la va R) := (hs _ (by omega) (by omega) (by omega)).trans ho
      refine b_P_forgetKept_2 hX _ _ _ _ _ (i_iload rfl <| i_aload rfl <| i_getf (c_cell hA h5 ho1) rfl <| i_alenq (c_cell hA h15 e1) <| i_cmp_f (nI_ge ht (by omega)) ?_)
      refine b_P_forgetKept_11 hX _ _ _ _ _ (i_aload rfl <| i_getf (c_cell hA h5 ho1) rfl <| i_iload rfl <| i_push <| c_astq_n hA h15 e1 ⟨rfl, ht, by omega⟩ <| i_aload rfl <| i_getf (c_cell hA h5 ((va_n (by omega)).trans ho1)) rfl <| i_iload rfl <| i_push <| c_astq_n hA h20 ((va_n (by omega)).trans e2) ⟨rfl, ht, by omega⟩ <| i_aload rfl <| i_getf (c_cell hA h5 ((va_n (by omega)).trans ((va_n (by omega)).trans ho1))) rfl <| i_iload rfl <| i_push <| c_astq_n hA h25 ((va_n (by omega)).trans ((va_n (by omega)).trans e3)) ⟨rfl, ht, by omega⟩ <| i_iinc rfl <| i_end ?_)
      refine ih _ (va_up f1 t none) (va_up f2 t none) (va_up f3 t none) ?_ ?_ (no_s n1) ?_ (no_s n2) ?_ (no_s n3) _ _
      · intro k a b c
        rw [va_n c, va_n b, va_n a]
        exact hs k a b c
      · exact (va_n (by omega)).trans ((va_n (by omega)).trans (va_s _ _ _))
      · exact (va_n (by omega)).trans (va_s _ _ _)
      · exact va_s _ _ _
  refine b_P_forgetKept_0 hX _ _ _ _ _ (i_push <| i_istore <| i_end ?_)
  exact loop 0 (Nat.zero_le _) cs g1 g2 g3 (fun _ _ _ _ => rfl) k1 (fun s hs => by omega) k2 (fun s hs => by omega) k3 (fun s hs => by omega) _ _
theorem sp_becomeNormal {la' : Nat} {v c : Int32} {lg : List Ent} (hA : AI (5 + 5 * N) A) (hi : i < N) (hN : N ≤ 5) (hR : RepC Z f A N cs i R) (hl : LogR Z f lg la') (hc : b24 c) :
    CS l D cid m_P_becomeNormal [.ref (A (5 + 5 * i)), .int v, .ref la', .int c] (hC (5 + 5 * N) A f cs) (fun w f' => w = none ∧ ∃ cs', f' = hC (5 + 5 * N) A f cs' ∧ (∀ k, ¬ W5 i k → cs' k = cs k) ∧ RepC Z f A N cs' i (r_normal R v lg c)) := by
  intro X hX
  have h5 : 5 + 5 * i < 5 + 5 * N := by omega
  obtain ⟨la, va, h1, h2, h3, h4, ⟨g1, k1, k1'⟩, ⟨g2, k2, k2'⟩, ⟨g3, k3, k3'⟩, h8, h9⟩ := hR
  refine b_P_becomeNormal_0 hX _ _ _ _ _ (i_aload rfl <| i_push <| c_putI hA h5 h1 rfl <| i_aload rfl <| i_iload rfl <| c_putI hA h5 (va_s _ _ _) rfl <| i_aload rfl <| i_iload rfl <| c_putI hA h5 (va_s _ _ _) rfl <| i_aload rfl <| i_aload rfl <| c_putR hA h5 (va_s _ _ _) rfl <| i_aload rfl <| i_iload rfl <| c_putI hA h5 (va_s _ _ _) rfl <| i_aload rfl <| ?_)
  simp only [va_va]
  refine j_callV (c_cell hA h5 (va_s _ _ _)) (sp_forgetKept (la := la') (va := va) (R := r_normal R v lg c) (g1 := g1) (g2 := g2) (g3 := g3) hA hi hN (va_s _ _ _) ((va_n (by omega)).trans k1) ((va_n (by omega)).trans k2) ((va_n (by omega)).trans k3)) rfl rfl ?_
  rintro w f' ⟨rfl, cs', rfl, hs, n1, n2, n3⟩
  refine (i_ret ?_)
  refine ⟨rfl, cs', rfl, fun k hk => ?_, la', va, ?_, hl, h3, ?_, n1.kep, n2.kep, n3.kep, hc, h9⟩
  · simp only [W5] at hk
    rw [hs k (by omega) (by omega) (by omega), va_n (by omega)]
  · rw [hs _ (by omega) (by omega) (by omega), va_s]
    rfl
  · exact h4.fm ((hs _ (by omega) (by omega) (by omega)).trans (va_n (by omega)))
end SPP
end
section
section SPQ
variable {l : Launch} {D : va_G} {cid : Nat → ClassId} {Z : Nat → Prop} {f : HF} {A : Nat → Nat} {N i : Nat} {cs : Nat → PC} {R : RS}
theorem sp_raiseVector {wa : Nat} {w : Nat → Int32} (hE : En Z A N f) (hi : i < N) (hN : N ≤ 5) (hR : RepC Z f A N cs i R) (hw : VecR Z f N wa w) :
    CS l D cid m_P_raiseVector [.ref (A (5 + 5 * i)), .ref wa] (hC (5 + 5 * N) A f cs) (fun v f' => v = none ∧ ∃ f1 cs', f' = hC (5 + 5 * N) A f1 cs' ∧ Ext f f1 ∧ (∀ k, k ≠ 5 + 5 * i → cs' k = cs k) ∧ RepC Z f1 A N cs' i (r_vec R w)) := by
  intro X hX
  have hA := hE.1
  have h5 : 5 + 5 * i < 5 + 5 * N := by omega
  obtain ⟨la, va, h1, h2, ⟨vz, g, hg, hg'⟩, h4, k1, k2, k3, h8, h9⟩ := hR
  obtain ⟨wz, gw, hgw, hgw'⟩ := hw
  refine b_P_raiseVector_0 hX _ _ _ _ _ (i_aload rfl <| i_getf (c_cell hA h5 h1) rfl <| i_clone (hE.im _ _ vz hg) ⟨Nat.le_refl 1, hN⟩ fun q1 hq1 => i_castI (hup_s _ _ _) <| i_astore <| i_push <| i_istore <| i_end ?_)
  obtain ⟨hqz, hqn⟩ := hE.no hq1
  have hqA := (hC_none hq1).1
  rw [hC_new hq1]
  have hwq : wa ≠ q1 := fun e => by rw [e, hqn] at hgw; cases hgw
  have loop : ∀ t, t ≤ N → ∀ g1 : Nat → Int32, (∀ s, s < N → g1 s = if s < t then mx (g s) (gw s) else g s) → ∀ bc bs, FR l D cid m_P_raiseVector X 13 [some (.ref (A (5 + 5 * i))), some (.ref wa), some (.ref q1), some (.int (nI t))] [] (hC (5 + 5 * N) A (hup f q1 (.inr (.inl (0, N, g1)))) cs) bc bs := by
    refine up_to ?_ ?_
    · intro g1 hg1 bc bs
      refine b_P_raiseVector_13 hX _ _ _ _ _ (i_iload rfl <| i_aload rfl <| i_alen ((hC_no hqA).trans (hup_s _ _ _)) <| i_cmp_t (Int32.le_refl _) ?_)
      refine b_P_raiseVector_37 hX _ _ _ _ _ (i_aload rfl <| i_aload rfl <| c_putR hA h5 h1 rfl <| i_ret ?_)
      have hX1 : Ext f (hup f q1 (.inr (.inl (0, N, g1)))) := Ext.new hqn
      refine ⟨rfl, _, _, rfl, hX1, fun k hk => va_n hk, la, q1, ?_, h2.fm (fun a c _ q => hX1 a c q), ⟨hqz, g1, hup_s _ _ _, fun t ht => ?_⟩, h4.fm (va_n (by omega)), k1.fm hX1 (va_n (by omega)), k2.fm hX1 (va_n (by omega)), k3.fm hX1 (va_n (by omega)), h8, h9⟩
      · rw [va_s]
        rfl
      · rw [hg1 t ht, if_pos ht, hg' t ht, hgw' t ht]
        rfl
    · intro t ht ih g1 hg1 bc bs
      simp only [nI_succ] at ih
      refine b_P_raiseVector_13 hX _ _ _ _ _ (i_iload rfl <| i_aload rfl <| i_alen ((hC_no hqA).trans (hup_s _ _ _)) <| i_cmp_f (nI_ge ht (by omega)) ?_)
      refine b_P_raiseVector_19 hX _ _ _ _ _ (i_aload rfl <| i_iload rfl <| i_aload rfl <| i_iload rfl <| i_ald ((hC_no hqA).trans (hup_s _ _ _)) ⟨rfl, ht, by omega⟩ <| i_aload rfl <| i_iload rfl <| i_ald ((hE.ext (Ext.new hqn)).im _ _ wz ((hup_n hwq).trans hgw)) ⟨rfl, ht, by omega⟩ <| j_rdS (sp_max) rfl rfl <| i_ast ((hC_no hqA).trans (hup_s _ _ _)) ⟨rfl, ht, by omega⟩ <| i_iinc rfl <| i_end ?_)
      rw [hC_own hqA]
      refine ih _ (fun s hs => ?_) _ _
      by_cases e : s = t
      · rw [e, upd_s, if_pos (by omega), hg1 t ht, if_neg (by omega)]
      · rw [upd_n e, hg1 s hs]
        by_cases h' : s < t
        · rw [if_pos h', if_pos (by omega)]
        · rw [if_neg h', if_neg (by omega)]
  exact loop 0 (Nat.zero_le _) g (fun s hs => by rw [if_neg (by omega)]) _ _
theorem sp_dropOutdated {k la va : Nat} {km : KM} (hE : En Z A N f) (hi : i < N) (hN : N ≤ 5) (hk : k < 5 + 5 * N) (hk5 : k ≠ 5 + 5 * i) (ho : cs (5 + 5 * i) = .inl (2, robj A i la va R)) (hv : VecR Z f N va (rX R)) (hkm : KepC Z f cs N k km) :
    CS l D cid m_P_dropOutdated [.ref (A (5 + 5 * i)), .ref (A k)] (hC (5 + 5 * N) A f cs) (fun v f' => v = none ∧ ∃ cs', f' = hC (5 + 5 * N) A f cs' ∧ (∀ k', k' ≠ k → cs' k' = cs k') ∧ KepC Z f cs' N k (drp km (rX R))) := by
  intro X hX
  have hA := hE.1
  have h5 : 5 + 5 * i < 5 + 5 * N := by omega
  obtain ⟨vz, gv, hgv, hgv'⟩ := hv
  obtain ⟨g, hg, hg'⟩ := hkm
  have loop : ∀ t, t ≤ N → ∀ g1 : Nat → Option Nat, (∀ s, s < N → OptR Z f N (g1 s) (if s < t then drp km (rX R) s else km s)) → ∀ bc bs, FR l D cid m_P_dropOutdated X 2 [some (.ref (A (5 + 5 * i))), some (.ref (A k)), some (.int (nI t))] [] (hC (5 + 5 * N) A f (va_up cs k (.inr (.inr (2, N, g1))))) bc bs := by
    refine up_to ?_ ?_
    · intro g1 hg1 bc bs
      refine b_P_dropOutdated_2 hX _ _ _ _ _ (i_iload rfl <| i_aload rfl <| i_alenq (c_cell hA hk (va_s _ _ _)) <| i_cmp_t (Int32.le_refl _) ?_)
      refine b_P_dropOutdated_41 hX _ _ _ _ _ (i_ret ?_)
      refine ⟨rfl, _, rfl, fun k' h => va_n h, g1, va_s _ _ _, fun t ht => ?_⟩
      have h := hg1 t ht
      rw [if_pos ht] at h
      exact h
    · intro t ht ih g1 hg1 bc bs
      simp only [nI_succ] at ih
      have h35 : ∀ g2 : Nat → Option Nat, (∀ s, s < N → OptR Z f N (g2 s) (if s < t + 1 then drp km (rX R) s else km s)) → ∀ bc bs, FR l D cid m_P_dropOutdated X 35 [some (.ref (A (5 + 5 * i))), some (.ref (A k)), some (.int (nI t))] [] (hC (5 + 5 * N) A f (va_up cs k (.inr (.inr (2, N, g2))))) bc bs := by
        intro g2 hg2 bc bs
        refine b_P_dropOutdated_35 hX _ _ _ _ _ (i_iinc rfl <| i_end ?_)
        exact ih g2 hg2 _ _
      have hot := hg1 t ht
      rw [if_neg (by omega)] at hot
      refine b_P_dropOutdated_2 hX _ _ _ _ _ (i_iload rfl <| i_aload rfl <| i_alenq (c_cell hA hk (va_s _ _ _)) <| i_cmp_f (nI_ge ht (by omega)) ?_)
      refine b_P_dropOutdated_8 hX _ _ _ _ _ (i_aload rfl <| i_iload rfl <| i_aldq (c_cell hA hk (va_s _ _ _)) ⟨rfl, ht, by omega⟩ <| i_null_v ?_ ?_)
      · intro hn
        refine h35 g1 (fun s hs => ?_) _ _
        by_cases e : s = t
        · subst e
          rw [if_pos (by omega)]
          cases hkt : km s with
          | none => rw [drp_n hkt, hn]; exact trivial
          | some m => rw [hn, hkt] at hot; exact hot.elim
        · have h := hg1 s hs
          by_cases h' : s < t
          · rw [if_pos h'] at h
            rw [if_pos (by omega)]
            exact h
          · rw [if_neg h'] at h
            rw [if_neg (by omega)]
            exact h
      · intro q hq
        cases hkt : km t with
        | none => rw [hq, hkt] at hot; exact hot.elim
        | some m =>
          rw [hq, hkt] at hot
          obtain ⟨mz, mva, mla, hm1, ⟨mvz, gm, hgm, hgm'⟩, hm3, hm4⟩ := id hot
          refine b_P_dropOutdated_14 hX _ _ _ _ _ (i_aload rfl <| i_iload rfl <| i_aldq' (c_cell hA hk (va_s _ _ _)) (⟨⟨rfl, ht, by omega⟩, congrArg va_rf hq⟩) <| i_getf (hE.im _ _ mz hm1) rfl <| i_iload rfl <| i_ald (hE.im _ _ mvz hgm) ⟨rfl, ht, by omega⟩ <| i_aload rfl <| i_getf (c_cell hA h5 ((va_n hk5.symm).trans ho)) rfl <| i_iload rfl <| i_ald (hE.im _ _ vz hgv) ⟨rfl, ht, by omega⟩ <| i_cmp ?_ ?_)
          · intro hle
            refine h35 g1 (fun s hs => ?_) _ _
            by_cases e : s = t
            · subst e
              rw [if_pos (by omega), drp_s hkt, if_neg, hq]
              · exact hot
              · rw [← hgv' s ht, ← hgm' s ht]
                exact Int32.not_lt.mpr hle
            · have h := hg1 s hs
              by_cases h' : s < t
              · rw [if_pos h'] at h
                rw [if_pos (by omega)]
                exact h
              · rw [if_neg h'] at h
                rw [if_neg (by omega)]
                exact h
          · intro hgt
            refine b_P_dropOutdated_31 hX _ _ _ _ _ (i_aload rfl <| i_iload rfl <| i_push <| c_astq_n hA hk (va_s _ _ _) ⟨rfl, ht, by omega⟩ <| i_end ?_)
            rw [va_va]
            refine h35 (va_up g1 t none) (fun s hs => ?_) _ _
            by_cases e : s = t
            · subst e
              rw [if_pos (by omega), drp_s hkt, if_pos, va_s]
              · exact trivial
              · rw [← hgv' s ht, ← hgm' s ht]
                exact Int32.not_le.mp hgt
            · rw [va_n e]
              have h := hg1 s hs
              by_cases h' : s < t
              · rw [if_pos h'] at h
                rw [if_pos (by omega)]
                exact h
              · rw [if_neg h'] at h
                rw [if_neg (by omega)]
                exact h
  refine b_P_dropOutdated_0 hX _ _ _ _ _ (i_push <| i_istore <| i_end ?_)
  have h := loop 0 (Nat.zero_le _) g (fun s hs => by rw [if_neg (by omega)]; exact hg' s hs)
  rw [va_id hg] at h
  exact h _ _
theorem sp_forgetOutdated (hE : En Z A N f) (hi : i < N) (hN : N ≤ 5) (hR : RepC Z f A N cs i R) :
    CS l D cid m_P_forgetOutdated [.ref (A (5 + 5 * i))] (hC (5 + 5 * N) A f cs) (fun v f' => v = none ∧ ∃ cs', f' = hC (5 + 5 * N) A f cs' ∧ (∀ k, ¬ W5 i k → cs' k = cs k) ∧ RepC Z f A N cs' i (r_drop R)) := by
  intro X hX
  have hA := hE.1
  have h5 : 5 + 5 * i < 5 + 5 * N := by omega
  obtain ⟨la, va, h1, h2, h3, h4, k1, k2, k3, h8, h9⟩ := hR
  refine b_P_forgetOutdated_0 hX _ _ _ _ _ (i_aload rfl <| i_aload rfl <| i_getf (c_cell hA h5 h1) rfl <| ?_)
  refine j_callV (c_cell hA h5 h1) (sp_dropOutdated (k := 7 + 5 * i) (R := R) hE hi hN (by omega) (by omega) h1 h3 k1) rfl rfl ?_
  rintro w f' ⟨rfl, c1, rfl, s1, n1⟩
  have h1' : c1 (5 + 5 * i) = .inl (2, robj A i la va R) := (s1 _ (by omega)).trans h1
  refine (i_aload rfl <| i_aload rfl <| i_getf (c_cell hA h5 h1') rfl <| ?_)
  refine j_callV (c_cell hA h5 h1') (sp_dropOutdated (k := 8 + 5 * i) (R := R) hE hi hN (by omega) (by omega) h1' h3 (k2.fm (ext_r f) (s1 _ (by omega)))) rfl rfl ?_
  rintro w f' ⟨rfl, c2, rfl, s2, n2⟩
  have h1'' : c2 (5 + 5 * i) = .inl (2, robj A i la va R) := (s2 _ (by omega)).trans h1'
  refine (i_aload rfl <| i_aload rfl <| i_getf (c_cell hA h5 h1'') rfl <| ?_)
  refine j_callV (c_cell hA h5 h1'') (sp_dropOutdated (k := 9 + 5 * i) (R := R) hE hi hN (by omega) (by omega) h1'' h3 (k3.fm (ext_r f) ((s2 _ (by omega)).trans (s1 _ (by omega))))) rfl rfl ?_
  rintro w f' ⟨rfl, c3, rfl, s3, n3⟩
  refine (i_ret ?_)
  refine ⟨rfl, c3, rfl, fun k hk => ?_, la, va, (s3 _ (by omega)).trans h1'', h2, h3, h4.fm ((s3 _ (by omega)).trans ((s2 _ (by omega)).trans (s1 _ (by omega)))), n1.fm (ext_r f) ((s3 _ (by omega)).trans (s2 _ (by omega))), n2.fm (ext_r f) (s3 _ (by omega)), n3, h8, h9⟩
  simp only [W5] at hk
  rw [s3 k (by omega), s2 k (by omega), s1 k (by omega)]
theorem sp_countAcked {la va : Nat} {e : Int32} {g a : Nat → Int32} (hA : AI (5 + 5 * N) A) (hi : i < N) (hN : N ≤ 5) (ho : cs (5 + 5 * i) = .inl (2, robj A i la va R)) (hg : cs (6 + 5 * i) = .inr (.inl (0, N, g))) (hga : ∀ t, t < N → g t = a t) :
    CS l D cid m_P_countAcked [.ref (A (5 + 5 * i)), .int e] (hC (5 + 5 * N) A f cs) (fun v f' => v = some (.int (cak a e N)) ∧ f' = hC (5 + 5 * N) A f cs) := by
  intro X hX
  have h5 : 5 + 5 * i < 5 + 5 * N := by omega
  have h10 : 6 + 5 * i < 5 + 5 * N := by omega
  have loop : ∀ t, t ≤ N → ∀ bc bs, FR l D cid m_P_countAcked X 4 [some (.ref (A (5 + 5 * i))), some (.int e), some (.int (cak a e t)), some (.int (nI t))] [] (hC (5 + 5 * N) A f cs) bc bs := by
    refine up_to ?_ ?_
    · intro bc bs
      refine b_P_countAcked_4 hX _ _ _ _ _ (i_iload rfl <| i_aload rfl <| i_getf (c_cell hA h5 ho) rfl <| i_alen (c_cell hA h10 hg) <| i_cmp_t (Int32.le_refl _) ?_)
      refine b_P_countAcked_32 hX _ _ _ _ _ (i_iload rfl <| i_iret ?_)
      exact ⟨rfl, rfl⟩
    · intro t ht ih bc bs
      simp only [nI_succ] at ih
      refine b_P_countAcked_4 hX _ _ _ _ _ (i_iload rfl <| i_aload rfl <| i_getf (c_cell hA h5 ho) rfl <| i_alen (c_cell hA h10 hg) <| i_cmp_f (nI_ge ht (by omega)) ?_)
      have h26 : ∀ x, x = cak a e (t + 1) → ∀ bc bs, FR l D cid m_P_countAcked X 26 [some (.ref (A (5 + 5 * i))), some (.int e), some (.int x), some (.int (nI t))] [] (hC (5 + 5 * N) A f cs) bc bs := by
        intro x hx bc bs
        subst hx
        refine b_P_countAcked_26 hX _ _ _ _ _ (i_iinc rfl <| i_end ?_)
        exact ih _ _
      refine b_P_countAcked_13 hX _ _ _ _ _ (i_aload rfl <| i_getf (c_cell hA h5 ho) rfl <| i_iload rfl <| i_ald (c_cell hA h10 hg) ⟨rfl, ht, by omega⟩ <| i_iload rfl <| i_cmp ?_ ?_)
      · intro h
        refine h26 _ ?_ _ _
        rw [cak, if_neg]
        rw [← hga t ht]
        exact Int32.not_le.mpr h
      · intro h
        refine b_P_countAcked_23 hX _ _ _ _ _ (i_iinc rfl <| i_end ?_)
        refine h26 _ ?_ _ _
        rw [cak, if_pos]
        rw [← hga t ht]
        exact Int32.not_lt.mp h
  refine b_P_countAcked_0 hX _ _ _ _ _ (i_push <| i_istore <| i_push <| i_istore <| i_end ?_)
  exact loop 0 (Nat.zero_le _) _ _
theorem sp_ackedBy {la va : Nat} {e : Int32} {g a : Nat → Int32} (hA : AI (5 + 5 * N) A) (hi : i < N) (hN : N ≤ 5) (ho : cs (5 + 5 * i) = .inl (2, robj A i la va R)) (hg : cs (6 + 5 * i) = .inr (.inl (0, N, g))) (hga : ∀ t, t < N → g t = a t) :
    CS l D cid m_P_ackedBy [.ref (A (5 + 5 * i)), .int e] (hC (5 + 5 * N) A f cs) (fun v f' => v = some (.int (akb a N e (rC R) N)) ∧ f' = hC (5 + 5 * N) A f cs) := by
  intro X hX
  have h5 : 5 + 5 * i < 5 + 5 * N := by omega
  have h10 : 6 + 5 * i < 5 + 5 * N := by omega
  have loop : ∀ t, t ≤ N → ∀ bc bs, FR l D cid m_P_ackedBy X 7 [some (.ref (A (5 + 5 * i))), some (.int e), some (.int (akb a N e (rC R) t)), some (.int (nI t))] [] (hC (5 + 5 * N) A f cs) bc bs := by
    refine up_to ?_ ?_
    · intro bc bs
      refine b_P_ackedBy_7 hX _ _ _ _ _ (i_iload rfl <| i_aload rfl <| i_getf (c_cell hA h5 ho) rfl <| i_alen (c_cell hA h10 hg) <| i_cmp_t (Int32.le_refl _) ?_)
      refine b_P_ackedBy_53 hX _ _ _ _ _ (i_iload rfl <| i_iret ?_)
      exact ⟨rfl, rfl⟩
    · intro t ht ih bc bs
      simp only [nI_succ] at ih
      refine b_P_ackedBy_7 hX _ _ _ _ _ (i_iload rfl <| i_aload rfl <| i_getf (c_cell hA h5 ho) rfl <| i_alen (c_cell hA h10 hg) <| i_cmp_f (nI_ge ht (by omega)) ?_)
      have h47 : ∀ x, x = akb a N e (rC R) (t + 1) → ∀ bc bs, FR l D cid m_P_ackedBy X 47 [some (.ref (A (5 + 5 * i))), some (.int e), some (.int x), some (.int (nI t))] [] (hC (5 + 5 * N) A f cs) bc bs := by
        intro x hx bc bs
        subst hx
        refine b_P_ackedBy_47 hX _ _ _ _ _ (i_iinc rfl <| i_end ?_)
        exact ih _ _
      refine b_P_ackedBy_16 hX _ _ _ _ _ (i_aload rfl <| i_getf (c_cell hA h5 ho) rfl <| i_iload rfl <| i_ald (c_cell hA h10 hg) ⟨rfl, ht, by omega⟩ <| i_iload rfl <| i_cmp ?_ ?_)
      · intro h
        refine h47 _ ?_ _ _
        rw [akb, if_neg]
        rw [← hga t ht]
        exact fun q => Int32.not_lt.mpr h q.1
      · intro h
        refine b_P_ackedBy_26 hX _ _ _ _ _ (i_aload rfl <| i_aload rfl <| i_getf (c_cell hA h5 ho) rfl <| i_iload rfl <| i_ald (c_cell hA h10 hg) ⟨rfl, ht, by omega⟩ <| j_rdV (c_cell hA h5 ho) (sp_countAcked hA hi hN ho hg hga) rfl rfl <| i_iload rfl <| i_cmp ?_ ?_)
        · intro h'
          refine h47 _ ?_ _ _
          rw [akb, if_neg]
          rw [← hga t ht]
          exact fun q => Int32.not_le.mpr h' q.2
        · intro h'
          refine b_P_ackedBy_40 hX _ _ _ _ _ (i_aload rfl <| i_getf (c_cell hA h5 ho) rfl <| i_iload rfl <| i_ald (c_cell hA h10 hg) ⟨rfl, ht, by omega⟩ <| i_istore <| i_end ?_)
          refine h47 _ ?_ _ _
          rw [akb, if_pos, hga t ht]
          rw [← hga t ht]
          exact ⟨Int32.not_le.mp h, Int32.not_lt.mp h'⟩
  refine b_P_ackedBy_0 hX _ _ _ _ _ (i_aload rfl <| i_getf (c_cell hA h5 ho) rfl <| i_istore <| i_push <| i_istore <| i_end ?_)
  exact loop 0 (Nat.zero_le _) _ _
theorem sp_forgetEverything (hE : En Z A N f) (hi : i < N) (hN : N ≤ 5) (hR : RepC Z f A N cs i R) :
    CS l D cid m_P_forgetEverything [.ref (A (5 + 5 * i))] (hC (5 + 5 * N) A f cs) (fun v f' => v = none ∧ ∃ f1 cs' la va, f' = hC (5 + 5 * N) A f1 cs' ∧ Ext f f1 ∧ (∀ k, ¬ W5 i k → cs' k = cs k) ∧ cs' (5 + 5 * i) = .inl (2, robj A i la va (r_fresh R)) ∧ RepC Z f1 A N cs' i (r_fresh R) ∧ (∃ g, f1 va = some (.inr (.inl (0, N, g))) ∧ ∀ t, t < N → g t = 0) ∧ f va = none ∧ ¬ la = va) := by
  intro X hX
  have hA := hE.1
  have h5 : 5 + 5 * i < 5 + 5 * N := by omega
  obtain ⟨la, va, h1, h2, ⟨vz, gv, hgv, hgv'⟩, ⟨ga, h4, h4'⟩, ⟨g1, k1, k1'⟩, ⟨g2, k2, k2'⟩, ⟨g3, k3, k3'⟩, h8, h9⟩ := hR
  refine b_P_forgetEverything_0 hX _ _ _ _ _ (i_aload rfl <| i_push <| c_putI hA h5 h1 rfl <| i_aload rfl <| i_push <| c_putI hA h5 (va_s _ _ _) rfl <| i_aload rfl <| i_new ⟨by decide, by decide⟩ fun q1 hq1 => i_dup <| ?_)
  refine j_upI (sp_L_init (hup_s _ _ _)) rfl rfl ?_
  obtain ⟨q1z, q1n⟩ := hE.no hq1
  rw [hup_hup, hC_new hq1]
  have X1 : Ext f (hup f q1 (.inl (0, [.null, .int 0, .int 0, .int 0, .int 0, .int 0]))) := Ext.new q1n
  refine (c_putR hA h5 (va_s _ _ _) rfl <| i_aload rfl <| i_push <| c_putI hA h5 (va_s _ _ _) rfl <| i_aload rfl <| i_aload rfl <| i_getf (c_cell hA h5 (va_s _ _ _)) rfl <| i_alen ((hE.ext X1).im _ _ vz (X1 _ _ hgv)) <| i_newI ⟨rfl, by omega⟩ ⟨by decide, Nat.le_trans hN (by decide)⟩ fun q2 hq2 => ?_)
  obtain ⟨q2z, q2n⟩ := (hE.ext X1).no hq2
  rw [hC_new hq2]
  have hq12 : q1 ≠ q2 := fun e => by rw [← e, hup_s] at q2n; cases q2n
  have q2f : f q2 = none := by
    cases e : f q2 with
    | none => rfl
    | some c => rw [X1 _ _ e] at q2n; cases q2n
  refine (c_putR hA h5 (va_s _ _ _) rfl <| i_aload rfl <| ?_)
  simp only [va_va]
  refine j_callV (c_cell hA h5 (va_s _ _ _)) (sp_forgetAcked (la := q1) (va := q2) (R := (rS R, 0, 0, [], 0, fun _ => 0, rA R, rP R, rO R, rE R, rR R, rN R)) (g := ga) hA hi hN (va_s _ _ _) ((va_n (by omega)).trans h4)) rfl rfl ?_
  rintro w f' ⟨rfl, ga', rfl, hga'⟩
  refine (i_aload rfl <| i_push <| c_putZ hA h5 ((va_n (by omega)).trans (va_s _ _ _)) rfl <| i_aload rfl <| ?_)
  refine j_callV (c_cell hA h5 (va_s _ _ _)) (sp_forgetKept (la := q1) (va := q2) (R := (rS R, 0, 0, [], 0, fun _ => 0, rA R, 0, rO R, rE R, rR R, rN R)) (g1 := g1) (g2 := g2) (g3 := g3) hA hi hN (va_s _ _ _) ((va_n (by omega)).trans ((va_n (by omega)).trans ((va_n (by omega)).trans k1))) ((va_n (by omega)).trans ((va_n (by omega)).trans ((va_n (by omega)).trans k2))) ((va_n (by omega)).trans ((va_n (by omega)).trans ((va_n (by omega)).trans k3)))) rfl rfl ?_
  rintro w f' ⟨rfl, cs', rfl, hs, n1, n2, n3⟩
  refine (i_ret ?_)
  have X2 := X1.trans (Ext.new (c := .inr (.inl (0, N, fun _ => 0))) q2n)
  have e5 : cs' (5 + 5 * i) = .inl (2, robj A i q1 q2 (r_fresh R)) := by
    rw [hs _ (by omega) (by omega) (by omega), va_s]
    rfl
  have hl : LogR Z (hup (hup f q1 (.inl (0, [.null, .int 0, .int 0, .int 0, .int 0, .int 0]))) q2 (.inr (.inl (0, N, fun _ => 0)))) [] q1 := ⟨q1z, (hup_n hq12).trans (hup_s _ _ _)⟩
  refine ⟨rfl, _, cs', q1, q2, rfl, X2, fun k hk => ?_, e5, ⟨q1, q2, e5, hl, ⟨q2z, _, hup_s _ _ _, fun _ _ => rfl⟩, ⟨ga', ?_, hga'⟩, n1.kep, n2.kep, n3.kep, b24_0, fun _ _ => b24_0⟩, ⟨_, hup_s _ _ _, fun _ _ => rfl⟩, q2f, hq12⟩
  · simp only [W5] at hk
    rw [hs k (by omega) (by omega) (by omega), va_n (by omega), va_n (by omega), va_n (by omega)]
  · rw [hs _ (by omega) (by omega) (by omega), va_n (by omega), va_s]
theorem sp_becomePrimary (hE : En Z A N f) (hi : i < N) (hN : N ≤ 5) (hR : RepC Z f A N cs i R) :
    CS l D cid m_P_becomePrimary [.ref (A (5 + 5 * i))] (hC (5 + 5 * N) A f cs) (fun w f' => w = none ∧ ∃ cs', f' = hC (5 + 5 * N) A f cs' ∧ (∀ k, ¬ W5 i k → cs' k = cs k) ∧ RepC Z f A N cs' i (r_primary R N)) := by
  intro X hX
  have hA := hE.1
  have h5 : 5 + 5 * i < 5 + 5 * N := by omega
  have h20 : 8 + 5 * i < 5 + 5 * N := by omega
  obtain ⟨la, va, h1, h2, h3, h4, k1, k2, k3, h8, h9⟩ := id hR
  obtain ⟨g, hg, hg'⟩ := id k2
  obtain ⟨ga, ha1, ha2⟩ := id h4
  have loop : ∀ t, t ≤ N → ∀ (lb : Nat) (x5 x6 : Option Value), LogR Z f (bst (rE R) (rG R, rL R, rC R) t).1 lb → b24 (bst (rE R) (rG R, rL R, rC R) t).2.2 → FR l D cid m_P_becomePrimary X 18 [some (.ref (A (5 + 5 * i))), some (.ref lb), some (.int (bst (rE R) (rG R, rL R, rC R) t).2.1), some (.int (bst (rE R) (rG R, rL R, rC R) t).2.2), some (.int (nI t)), x5, x6] [] (hC (5 + 5 * N) A f cs) m_P_becomePrimary.2.2.2.2.cells m_P_becomePrimary.2.2.2.2.slots := by
    refine up_to ?_ ?_
    · intro lb x5 x6 hl hb
      refine b_P_becomePrimary_18 hX _ _ _ _ _ (i_iload rfl <| i_aload rfl <| i_getf (c_cell hA h5 h1) rfl <| i_alenq (c_cell hA h20 hg) <| i_cmp_t (Int32.le_refl _) ?_)
      refine b_P_becomePrimary_118 hX _ _ _ _ _ (i_aload rfl <| ?_)
      refine j_callV (c_cell hA h5 h1) (sp_forgetAcked hA hi hN h1 ha1) rfl rfl ?_
      rintro w f' ⟨rfl, ga', rfl, hga'⟩
      refine (i_aload rfl <| i_aload rfl <| i_getf (c_cell hA h5 ((va_n (by omega)).trans h1)) rfl <| i_aload rfl <| i_iload rfl <| ?_)
      have hR' : RepC Z f A N (va_up cs (6 + 5 * i) (.inr (.inl (0, N, ga')))) i (rS R, rV R, rL R, rG R, rC R, rX R, fun _ => 0, rP R, rO R, rE R, rR R, rN R) :=
        ⟨la, va, (va_n (by omega)).trans h1, h2, h3, ⟨ga', va_s _ _ _, hga'⟩, k1.fm (ext_r f) (va_n (by omega)), k2.fm (ext_r f) (va_n (by omega)), k3.fm (ext_r f) (va_n (by omega)), h8, fun _ _ => b24_0⟩
      refine j_callV (c_cell hA h5 ((va_n (by omega)).trans h1)) (sp_becomeNormal (la' := lb) (v := rV R) hA hi hN hR' hl hb) rfl rfl ?_
      rintro w f' ⟨rfl, cs', rfl, hs, hr⟩
      refine (i_ret ?_)
      refine ⟨rfl, cs', rfl, fun k hk => (hs k hk).trans (va_n ?_), hr⟩
      simp only [W5] at hk
      omega
    · intro t ht ih lb x5 x6 hl hb
      simp only [nI_succ] at ih
      have h112 : ∀ (b : List Ent × Int32 × Int32) (lc : Nat) (y5 y6 : Option Value), b = bst (rE R) (rG R, rL R, rC R) (t + 1) → LogR Z f b.1 lc → b24 b.2.2 → FR l D cid m_P_becomePrimary X 112 [some (.ref (A (5 + 5 * i))), some (.ref lc), some (.int b.2.1), some (.int b.2.2), some (.int (nI t)), y5, y6] [] (hC (5 + 5 * N) A f cs) m_P_becomePrimary.2.2.2.2.cells m_P_becomePrimary.2.2.2.2.slots := by
        intro b lc y5 y6 hb' hl' hc'
        subst hb'
        refine b_P_becomePrimary_112 hX _ _ _ _ _ (i_iinc rfl <| i_end ?_)
        exact ih lc y5 y6 hl' hc'
      have hot := hg' t ht
      refine b_P_becomePrimary_18 hX _ _ _ _ _ (i_iload rfl <| i_aload rfl <| i_getf (c_cell hA h5 h1) rfl <| i_alenq (c_cell hA h20 hg) <| i_cmp_f (nI_ge ht (by omega)) ?_)
      cases hq : g t with
      | none =>
        rw [hq] at hot
        cases hk : rE R t with
        | some m => rw [hk] at hot; exact hot.elim
        | none =>
          refine b_P_becomePrimary_28 hX _ _ _ _ _ (i_aload rfl <| i_getf (c_cell hA h5 h1) rfl <| i_iload rfl <| i_aldq' (c_cell hA h20 hg) (⟨⟨rfl, ht, by omega⟩, congrArg va_rf hq⟩) <| i_astore <| i_aload rfl <| i_null_n ?_)
          refine b_P_becomePrimary_42 hX _ _ _ _ _ (i_end ?_)
          have e := bst_n (b0 := (rG R, rL R, rC R)) hk
          exact h112 _ lb _ _ e.symm hl hb
      | some q =>
        rw [hq] at hot
        cases hk : rE R t with
        | none => rw [hk] at hot; exact hot.elim
        | some m =>
          rw [hk] at hot
          obtain ⟨mz, mva, mla, hm1, hm2, hm3, hm4, hm5, hm6⟩ := id hot
          have hmc := hE.im (cs := cs) _ _ mz hm1
          obtain ⟨bb, hbb⟩ := hl.cell
          have hbc := hE.im (cs := cs) _ _ hl.nz hbb
          obtain ⟨bm, hbm⟩ := hm3.cell
          have hmb := hE.im (cs := cs) _ _ hm3.nz hbm
          have h102 : ∀ (lg : List Ent) (v : Int32) (lc : Nat) (y6 : Option Value), LogR Z f lg lc → (lg, v, mx (bst (rE R) (rG R, rL R, rC R) t).2.2 (mC m)) = bst (rE R) (rG R, rL R, rC R) (t + 1) → FR l D cid m_P_becomePrimary X 102 [some (.ref (A (5 + 5 * i))), some (.ref lc), some (.int v), some (.int (bst (rE R) (rG R, rL R, rC R) t).2.2), some (.int (nI t)), some (.ref q), y6] [] (hC (5 + 5 * N) A f cs) m_P_becomePrimary.2.2.2.2.cells m_P_becomePrimary.2.2.2.2.slots := by
            intro lg v lc y6 hl' he
            refine b_P_becomePrimary_102 hX _ _ _ _ _ (i_iload rfl <| i_aload rfl <| i_getf hmc rfl <| j_rdS (sp_max) rfl rfl <| i_istore <| i_end ?_)
            exact h112 (lg, v, _) lc _ _ he hl' (b24_mx hb hm6)
          have h90 : ∀ y6 : Option Value, ((bst (rE R) (rG R, rL R, rC R) t).2.1 < mL m ∨ (mL m = (bst (rE R) (rG R, rL R, rC R) t).2.1 ∧ nI (bst (rE R) (rG R, rL R, rC R) t).1.length < nI (mG m).length)) → FR l D cid m_P_becomePrimary X 90 [some (.ref (A (5 + 5 * i))), some (.ref lb), some (.int (bst (rE R) (rG R, rL R, rC R) t).2.1), some (.int (bst (rE R) (rG R, rL R, rC R) t).2.2), some (.int (nI t)), some (.ref q), y6] [] (hC (5 + 5 * N) A f cs) m_P_becomePrimary.2.2.2.2.cells m_P_becomePrimary.2.2.2.2.slots := by
            intro y6 hc
            refine b_P_becomePrimary_90 hX _ _ _ _ _ (i_aload rfl <| i_getf hmc rfl <| i_astore <| i_aload rfl <| i_getf hmc rfl <| i_istore <| i_end ?_)
            exact h102 (mG m) (mL m) mla _ hm3 (bst_p hk hc).symm
          have h73 : ¬ (mL m = (bst (rE R) (rG R, rL R, rC R) t).2.1 ∧ nI (bst (rE R) (rG R, rL R, rC R) t).1.length < nI (mG m).length) → ∀ y6 : Option Value, FR l D cid m_P_becomePrimary X 73 [some (.ref (A (5 + 5 * i))), some (.ref lb), some (.int (bst (rE R) (rG R, rL R, rC R) t).2.1), some (.int (bst (rE R) (rG R, rL R, rC R) t).2.2), some (.int (nI t)), some (.ref q), y6] [] (hC (5 + 5 * N) A f cs) m_P_becomePrimary.2.2.2.2.cells m_P_becomePrimary.2.2.2.2.slots := by
            intro hn y6
            refine b_P_becomePrimary_73 hX _ _ _ _ _ (i_push <| i_end ?_)
            refine b_P_becomePrimary_74 hX _ _ _ _ _ (i_istore <| i_aload rfl <| i_getf hmc rfl <| i_iload rfl <| i_cmp ?_ ?_)
            · intro h
              exact h90 _ (Or.inl h)
            · intro h
              refine b_P_becomePrimary_85 hX _ _ _ _ _ (i_iload rfl <| i_if_t rfl ?_)
              exact h102 _ _ lb _ hl (bst_m hk (fun q => q.elim h hn)).symm
          refine b_P_becomePrimary_28 hX _ _ _ _ _ (i_aload rfl <| i_getf (c_cell hA h5 h1) rfl <| i_iload rfl <| i_aldq' (c_cell hA h20 hg) (⟨⟨rfl, ht, by omega⟩, congrArg va_rf hq⟩) <| i_astore <| i_aload rfl <| i_null_r ?_)
          refine b_P_becomePrimary_45 hX _ _ _ _ _ (i_aload rfl <| i_getf hmc rfl <| i_iload rfl <| i_cmp ?_ ?_)
          · intro hne
            exact h73 (fun q => hne q.1) _
          · intro heq
            have heq' := Classical.not_not.mp heq
            refine b_P_becomePrimary_54 hX _ _ _ _ _ (i_aload rfl <| i_getf hmc rfl <| i_getf hmb rfl <| i_aload rfl <| i_getf hbc rfl <| i_cmp ?_ ?_)
            · intro hle
              exact h73 (fun q => Int32.not_lt.mpr hle q.2) _
            · intro hgt
              refine b_P_becomePrimary_69 hX _ _ _ _ _ (i_push <| i_end ?_)
              refine b_P_becomePrimary_74 hX _ _ _ _ _ (i_istore <| i_aload rfl <| i_getf hmc rfl <| i_iload rfl <| i_cmp ?_ ?_)
              · intro h
                exact h90 _ (Or.inl h)
              · intro h
                refine b_P_becomePrimary_85 hX _ _ _ _ _ (i_iload rfl <| i_if_f (by decide) ?_)
                exact h90 _ (Or.inr ⟨heq', Int32.not_le.mp hgt⟩)
  refine b_P_becomePrimary_0 hX _ _ _ _ _ (i_aload rfl <| i_getf (c_cell hA h5 h1) rfl <| i_astore <| i_aload rfl <| i_getf (c_cell hA h5 h1) rfl <| i_istore <| i_aload rfl <| i_getf (c_cell hA h5 h1) rfl <| i_istore <| i_push <| i_istore <| i_end ?_)
  exact loop 0 (Nat.zero_le _) la none none h2 h8
end SPQ
end
section
abbrev m_G_init : MT := (⟨"GroupLog", "<init>", "(I)V"⟩, prog_1_method_1_code, 3, (none : Option FieldType), { frames := 3, cells := 40, slots := 2000, locals := 62 })
theorem pf_G_init : plainFor m_G_init.1 = true := by decide +kernel
theorem d_G_init_0 : decode prog_1_method_1_code 0 = .ok (.aload_n 0, 1) := by decide +kernel
theorem d_G_init_1 : decode prog_1_method_1_code 1 = .ok (.invokespecial 1, 3) := by decide +kernel
theorem d_G_init_4 : decode prog_1_method_1_code 4 = .ok (.aload_n 0, 1) := by decide +kernel
theorem d_G_init_5 : decode prog_1_method_1_code 5 = .ok (.bipush 64, 2) := by decide +kernel
theorem d_G_init_7 : decode prog_1_method_1_code 7 = .ok (.anewarray 9, 3) := by decide +kernel
theorem d_G_init_10 : decode prog_1_method_1_code 10 = .ok (.putfield 11, 3) := by decide +kernel
theorem d_G_init_13 : decode prog_1_method_1_code 13 = .ok (.aload_n 0, 1) := by decide +kernel
theorem d_G_init_14 : decode prog_1_method_1_code 14 = .ok (.iconst 0, 1) := by decide +kernel
theorem d_G_init_15 : decode prog_1_method_1_code 15 = .ok (.putfield 15, 3) := by decide +kernel
theorem d_G_init_18 : decode prog_1_method_1_code 18 = .ok (.aload_n 0, 1) := by decide +kernel
theorem d_G_init_19 : decode prog_1_method_1_code 19 = .ok (.iconst (-1), 1) := by decide +kernel
theorem d_G_init_20 : decode prog_1_method_1_code 20 = .ok (.putfield 19, 3) := by decide +kernel
theorem d_G_init_23 : decode prog_1_method_1_code 23 = .ok (.aload_n 0, 1) := by decide +kernel
theorem d_G_init_24 : decode prog_1_method_1_code 24 = .ok (.iconst 4, 1) := by decide +kernel
theorem d_G_init_25 : decode prog_1_method_1_code 25 = .ok (.newarray .int, 2) := by decide +kernel
theorem d_G_init_27 : decode prog_1_method_1_code 27 = .ok (.putfield 22, 3) := by decide +kernel
theorem d_G_init_30 : decode prog_1_method_1_code 30 = .ok (.aload_n 0, 1) := by decide +kernel
theorem d_G_init_31 : decode prog_1_method_1_code 31 = .ok (.iconst 4, 1) := by decide +kernel
theorem d_G_init_32 : decode prog_1_method_1_code 32 = .ok (.newarray .int, 2) := by decide +kernel
theorem d_G_init_34 : decode prog_1_method_1_code 34 = .ok (.putfield 26, 3) := by decide +kernel
theorem d_G_init_37 : decode prog_1_method_1_code 37 = .ok (.aload_n 0, 1) := by decide +kernel
theorem d_G_init_38 : decode prog_1_method_1_code 38 = .ok (.iload_n 1, 1) := by decide +kernel
theorem d_G_init_39 : decode prog_1_method_1_code 39 = .ok (.iconst 2, 1) := by decide +kernel
theorem d_G_init_40 : decode prog_1_method_1_code 40 = .ok (.irem, 1) := by decide +kernel
theorem d_G_init_41 : decode prog_1_method_1_code 41 = .ok (.ifCond .ne 7, 3) := by decide +kernel
theorem d_G_init_44 : decode prog_1_method_1_code 44 = .ok (.iconst 3, 1) := by decide +kernel
theorem d_G_init_45 : decode prog_1_method_1_code 45 = .ok (.goto 4, 3) := by decide +kernel
theorem d_G_init_48 : decode prog_1_method_1_code 48 = .ok (.iconst 5, 1) := by decide +kernel
theorem d_G_init_49 : decode prog_1_method_1_code 49 = .ok (.putfield 29, 3) := by decide +kernel
theorem d_G_init_52 : decode prog_1_method_1_code 52 = .ok (.aload_n 0, 1) := by decide +kernel
theorem d_G_init_53 : decode prog_1_method_1_code 53 = .ok (.aload_n 0, 1) := by decide +kernel
theorem d_G_init_54 : decode prog_1_method_1_code 54 = .ok (.getfield 29, 3) := by decide +kernel
theorem d_G_init_57 : decode prog_1_method_1_code 57 = .ok (.iconst 2, 1) := by decide +kernel
theorem d_G_init_58 : decode prog_1_method_1_code 58 = .ok (.idiv, 1) := by decide +kernel
theorem d_G_init_59 : decode prog_1_method_1_code 59 = .ok (.putfield 32, 3) := by decide +kernel
theorem d_G_init_62 : decode prog_1_method_1_code 62 = .ok (.aload_n 0, 1) := by decide +kernel
theorem d_G_init_63 : decode prog_1_method_1_code 63 = .ok (.aload_n 0, 1) := by decide +kernel
theorem d_G_init_64 : decode prog_1_method_1_code 64 = .ok (.getfield 29, 3) := by decide +kernel
theorem d_G_init_67 : decode prog_1_method_1_code 67 = .ok (.anewarray 35, 3) := by decide +kernel
theorem d_G_init_70 : decode prog_1_method_1_code 70 = .ok (.putfield 37, 3) := by decide +kernel
theorem d_G_init_73 : decode prog_1_method_1_code 73 = .ok (.iconst 0, 1) := by decide +kernel
theorem d_G_init_74 : decode prog_1_method_1_code 74 = .ok (.istore_n 2, 1) := by decide +kernel
theorem d_G_init_75 : decode prog_1_method_1_code 75 = .ok (.iload_n 2, 1) := by decide +kernel
theorem d_G_init_76 : decode prog_1_method_1_code 76 = .ok (.aload_n 0, 1) := by decide +kernel
theorem d_G_init_77 : decode prog_1_method_1_code 77 = .ok (.getfield 29, 3) := by decide +kernel
theorem d_G_init_80 : decode prog_1_method_1_code 80 = .ok (.if_icmp .ge 27, 3) := by decide +kernel
theorem d_G_init_83 : decode prog_1_method_1_code 83 = .ok (.aload_n 0, 1) := by decide +kernel
theorem d_G_init_84 : decode prog_1_method_1_code 84 = .ok (.getfield 37, 3) := by decide +kernel
theorem d_G_init_87 : decode prog_1_method_1_code 87 = .ok (.iload_n 2, 1) := by decide +kernel
theorem d_G_init_88 : decode prog_1_method_1_code 88 = .ok (.new 35, 3) := by decide +kernel
theorem d_G_init_91 : decode prog_1_method_1_code 91 = .ok (.dup, 1) := by decide +kernel
theorem d_G_init_92 : decode prog_1_method_1_code 92 = .ok (.iload_n 2, 1) := by decide +kernel
theorem d_G_init_93 : decode prog_1_method_1_code 93 = .ok (.aload_n 0, 1) := by decide +kernel
theorem d_G_init_94 : decode prog_1_method_1_code 94 = .ok (.getfield 29, 3) := by decide +kernel
theorem d_G_init_97 : decode prog_1_method_1_code 97 = .ok (.invokespecial 41, 3) := by decide +kernel
theorem d_G_init_100 : decode prog_1_method_1_code 100 = .ok (.aastore, 1) := by decide +kernel
theorem d_G_init_101 : decode prog_1_method_1_code 101 = .ok (.iinc 2 1, 3) := by decide +kernel
theorem d_G_init_104 : decode prog_1_method_1_code 104 = .ok (.goto (-29), 3) := by decide +kernel
theorem d_G_init_107 : decode prog_1_method_1_code 107 = .ok (.return_, 1) := by decide +kernel
theorem b_G_init_0 {l : Launch} {D : va_G} {cid : Nat → ClassId} {X : CT} {Post : PT} (hX : OK l D cid m_G_init X Post) : SS l D cid m_G_init X 0 [o_aload 0, o_obj, o_aload 0, o_push (.int 64), o_newQ 2, o_put okR 3 3, o_aload 0, o_push (.int 0), o_put okI 3 4, o_aload 0, o_push (.int (-1)), o_put okI 3 5, o_aload 0, o_push (.int 4), o_newI 0, o_put okR 3 6, o_aload 0, o_push (.int 4), o_newI 0, o_put okR 3 7, o_aload 0, o_iload 1, o_push (.int 2), o_binz (fun x y => x - x / y * y)] (t_if (fun x => ¬ x = 0) (FR l D cid m_G_init X 48) (FR l D cid m_G_init X 44)) := by
  refine SS.cons (so_aload_n hX d_G_init_0 rfl) ?_
  refine SS.cons (so_obj hX d_G_init_1 k_56 k_57 k_58 (by decide) (by decide)) ?_
  refine SS.cons (so_aload_n hX d_G_init_4 rfl) ?_
  refine SS.cons (so_bipush hX d_G_init_5 (by decide)) ?_
  refine SS.cons (so_newQ hX d_G_init_7 k_59 hX.2.2.2.2.2.2.2.2.1.1 rfl) ?_
  refine SS.cons (so_putF (C := R_G) (T := T_G) (ok_A _) hX d_G_init_10 in_G ty_G nm_G rfl (by decide) k_162 rfl rfl rfl rfl) ?_
  refine SS.cons (so_aload_n hX d_G_init_13 rfl) ?_
  refine SS.cons (so_iconst hX d_G_init_14 (by decide)) ?_
  refine SS.cons (so_put (C := R_G) (T := T_G) ok_I hX d_G_init_15 in_G ty_G nm_G rfl (by decide) k_163 rfl rfl) ?_
  refine SS.cons (so_aload_n hX d_G_init_18 rfl) ?_
  refine SS.cons (so_iconst hX d_G_init_19 (by decide)) ?_
  refine SS.cons (so_put (C := R_G) (T := T_G) ok_I hX d_G_init_20 in_G ty_G nm_G rfl (by decide) k_164 rfl rfl) ?_
  refine SS.cons (so_aload_n hX d_G_init_23 rfl) ?_
  refine SS.cons (so_iconst hX d_G_init_24 (by decide)) ?_
  refine SS.cons (so_newI hX d_G_init_25 rfl k_99 rfl (by decide) nw_0) ?_
  refine SS.cons (so_putF (C := R_G) (T := T_G) (ok_A _) hX d_G_init_27 in_G ty_G nm_G rfl (by decide) k_165 rfl rfl rfl rfl) ?_
  refine SS.cons (so_aload_n hX d_G_init_30 rfl) ?_
  refine SS.cons (so_iconst hX d_G_init_31 (by decide)) ?_
  refine SS.cons (so_newI hX d_G_init_32 rfl k_99 rfl (by decide) nw_0) ?_
  refine SS.cons (so_putF (C := R_G) (T := T_G) (ok_A _) hX d_G_init_34 in_G ty_G nm_G rfl (by decide) k_166 rfl rfl rfl rfl) ?_
  refine SS.cons (so_aload_n hX d_G_init_37 rfl) ?_
  refine SS.cons (so_iload_n hX d_G_init_38 rfl) ?_
  refine SS.cons (so_iconst hX d_G_init_39 (by decide)) ?_
  refine SS.cons (so_irem hX d_G_init_40) ?_
  exact st_if_ne hX d_G_init_41 (by decide)
theorem b_G_init_44 {l : Launch} {D : va_G} {cid : Nat → ClassId} {X : CT} {Post : PT} (hX : OK l D cid m_G_init X Post) : SS l D cid m_G_init X 44 [o_push (.int 3)] (FR l D cid m_G_init X 49) := by
  refine SS.cons (so_iconst hX d_G_init_44 (by decide)) ?_
  exact so_goto hX d_G_init_45 (by decide)
theorem b_G_init_48 {l : Launch} {D : va_G} {cid : Nat → ClassId} {X : CT} {Post : PT} (hX : OK l D cid m_G_init X Post) : SS l D cid m_G_init X 48 [o_push (.int 5)] (FR l D cid m_G_init X 49) := by
  refine SS.cons (so_iconst hX d_G_init_48 (by decide)) ?_
  exact SS.fall
theorem b_G_init_49 {l : Launch} {D : va_G} {cid : Nat → ClassId} {X : CT} {Post : PT} (hX : OK l D cid m_G_init X Post) : SS l D cid m_G_init X 49 [o_put okI 3 0, o_aload 0, o_aload 0, o_getf 3 0, o_push (.int 2), o_binz (fun x y => x / y), o_put okI 3 1, o_aload 0, o_aload 0, o_getf 3 0, o_newQ 3, o_put okR 3 2, o_push (.int 0), o_istore 2] (FR l D cid m_G_init X 75) := by
  refine SS.cons (so_putF (C := R_G) (T := T_G) ok_I hX d_G_init_49 in_G ty_G nm_G rfl (by decide) k_159 rfl rfl rfl rfl) ?_
  refine SS.cons (so_aload_n hX d_G_init_52 rfl) ?_
  refine SS.cons (so_aload_n hX d_G_init_53 rfl) ?_
  refine SS.cons (so_getf (C := R_G) (T := T_G) hX d_G_init_54 in_G rfl (by decide) k_159) ?_
  refine SS.cons (so_iconst hX d_G_init_57 (by decide)) ?_
  refine SS.cons (so_idiv hX d_G_init_58) ?_
  refine SS.cons (so_putF (C := R_G) (T := T_G) ok_I hX d_G_init_59 in_G ty_G nm_G rfl (by decide) k_160 rfl rfl rfl rfl) ?_
  refine SS.cons (so_aload_n hX d_G_init_62 rfl) ?_
  refine SS.cons (so_aload_n hX d_G_init_63 rfl) ?_
  refine SS.cons (so_getf (C := R_G) (T := T_G) hX d_G_init_64 in_G rfl (by decide) k_159) ?_
  refine SS.cons (so_newQ hX d_G_init_67 k_61 hX.2.2.2.2.2.2.2.2.1.2.1 rfl) ?_
  refine SS.cons (so_putF (C := R_G) (T := T_G) (ok_A _) hX d_G_init_70 in_G ty_G nm_G rfl (by decide) k_161 rfl rfl rfl rfl) ?_
  refine SS.cons (so_iconst hX d_G_init_73 (by decide)) ?_
  refine SS.cons (so_istore_n hX d_G_init_74 rfl (by decide)) ?_
  exact SS.fall
theorem b_G_init_75 {l : Launch} {D : va_G} {cid : Nat → ClassId} {X : CT} {Post : PT} (hX : OK l D cid m_G_init X Post) : SS l D cid m_G_init X 75 [o_iload 2, o_aload 0, o_getf 3 0] (t_cmp (fun x y => y ≤ x) (FR l D cid m_G_init X 107) (FR l D cid m_G_init X 83)) := by
  refine SS.cons (so_iload_n hX d_G_init_75 rfl) ?_
  refine SS.cons (so_aload_n hX d_G_init_76 rfl) ?_
  refine SS.cons (so_getf (C := R_G) (T := T_G) hX d_G_init_77 in_G rfl (by decide) k_159) ?_
  exact st_icmp_ge hX d_G_init_80 (by decide)
theorem b_G_init_83 {l : Launch} {D : va_G} {cid : Nat → ClassId} {X : CT} {Post : PT} (hX : OK l D cid m_G_init X Post) : SS l D cid m_G_init X 83 [o_aload 0, o_getf 3 2, o_iload 2, o_new 2 13 df_P, o_dup, o_iload 2, o_aload 0, o_getf 3 0, o_callI l D cid m_P_init 2, o_astq 3 2, o_iinc 2 1] (FR l D cid m_G_init X 75) := by
  refine SS.cons (so_aload_n hX d_G_init_83 rfl) ?_
  refine SS.cons (so_getf (C := R_G) (T := T_G) hX d_G_init_84 in_G rfl (by decide) k_161) ?_
  refine SS.cons (so_iload_n hX d_G_init_87 rfl) ?_
  refine SS.cons (so_new (C := R_P) (T := T_P) hX d_G_init_88 in_P ty_P k_61 k_63 k_46 rfl dv_P) ?_
  refine SS.cons (so_dup hX d_G_init_91) ?_
  refine SS.cons (so_iload_n hX d_G_init_92 rfl) ?_
  refine SS.cons (so_aload_n hX d_G_init_93 rfl) ?_
  refine SS.cons (so_getf (C := R_G) (T := T_G) hX d_G_init_94 in_G rfl (by decide) k_159) ?_
  refine SS.cons (so_callI (M' := m_P_init) hX d_G_init_97 k_66 rfl k_64 k_65 k_46 rfl pf_P_init (by decide) (by decide +kernel) ⟨by decide, by decide⟩) ?_
  refine SS.cons (so_astq (r0 := (R_P, T_P, 13)) hX d_G_init_100 rfl rfl) ?_
  refine SS.cons (so_iinc hX d_G_init_101 (by decide) (by decide)) ?_
  exact so_goto hX d_G_init_104 (by decide)
theorem b_G_init_107 {l : Launch} {D : va_G} {cid : Nat → ClassId} {X : CT} {Post : PT} (hX : OK l D cid m_G_init X Post) : SS l D cid m_G_init X 107 [] (t_ret Post) := by
  exact st_ret hX d_G_init_107 rfl
abbrev m_G_isReplica : MT := (⟨"GroupLog", "isReplica", "(I)Z"⟩, prog_1_method_21_code, 2, (some FieldType.boolean), { frames := 0, cells := 0, slots := 0, locals := 0 })
theorem pf_G_isReplica : plainFor m_G_isReplica.1 = true := by decide +kernel
theorem d_G_isReplica_0 : decode prog_1_method_21_code 0 = .ok (.iload_n 1, 1) := by decide +kernel
theorem d_G_isReplica_1 : decode prog_1_method_21_code 1 = .ok (.ifCond .lt 15, 3) := by decide +kernel
theorem d_G_isReplica_4 : decode prog_1_method_21_code 4 = .ok (.iload_n 1, 1) := by decide +kernel
theorem d_G_isReplica_5 : decode prog_1_method_21_code 5 = .ok (.aload_n 0, 1) := by decide +kernel
theorem d_G_isReplica_6 : decode prog_1_method_21_code 6 = .ok (.getfield 29, 3) := by decide +kernel
theorem d_G_isReplica_9 : decode prog_1_method_21_code 9 = .ok (.if_icmp .ge 7, 3) := by decide +kernel
theorem d_G_isReplica_12 : decode prog_1_method_21_code 12 = .ok (.iconst 1, 1) := by decide +kernel
theorem d_G_isReplica_13 : decode prog_1_method_21_code 13 = .ok (.goto 4, 3) := by decide +kernel
theorem d_G_isReplica_16 : decode prog_1_method_21_code 16 = .ok (.iconst 0, 1) := by decide +kernel
theorem d_G_isReplica_17 : decode prog_1_method_21_code 17 = .ok (.ireturn, 1) := by decide +kernel
theorem b_G_isReplica_0 {l : Launch} {D : va_G} {cid : Nat → ClassId} {X : CT} {Post : PT} (hX : OK l D cid m_G_isReplica X Post) : SS l D cid m_G_isReplica X 0 [o_iload 1] (t_if (fun x => x < 0) (FR l D cid m_G_isReplica X 16) (FR l D cid m_G_isReplica X 4)) := by
  refine SS.cons (so_iload_n hX d_G_isReplica_0 rfl) ?_
  exact st_if_lt hX d_G_isReplica_1 (by decide)
theorem b_G_isReplica_4 {l : Launch} {D : va_G} {cid : Nat → ClassId} {X : CT} {Post : PT} (hX : OK l D cid m_G_isReplica X Post) : SS l D cid m_G_isReplica X 4 [o_iload 1, o_aload 0, o_getf 3 0] (t_cmp (fun x y => y ≤ x) (FR l D cid m_G_isReplica X 16) (FR l D cid m_G_isReplica X 12)) := by
  refine SS.cons (so_iload_n hX d_G_isReplica_4 rfl) ?_
  refine SS.cons (so_aload_n hX d_G_isReplica_5 rfl) ?_
  refine SS.cons (so_getf (C := R_G) (T := T_G) hX d_G_isReplica_6 in_G rfl (by decide) k_159) ?_
  exact st_icmp_ge hX d_G_isReplica_9 (by decide)
theorem b_G_isReplica_12 {l : Launch} {D : va_G} {cid : Nat → ClassId} {X : CT} {Post : PT} (hX : OK l D cid m_G_isReplica X Post) : SS l D cid m_G_isReplica X 12 [o_push (.int 1)] (FR l D cid m_G_isReplica X 17) := by
  refine SS.cons (so_iconst hX d_G_isReplica_12 (by decide)) ?_
  exact so_goto hX d_G_isReplica_13 (by decide)
theorem b_G_isReplica_16 {l : Launch} {D : va_G} {cid : Nat → ClassId} {X : CT} {Post : PT} (hX : OK l D cid m_G_isReplica X Post) : SS l D cid m_G_isReplica X 16 [o_push (.int 0)] (FR l D cid m_G_isReplica X 17) := by
  refine SS.cons (so_iconst hX d_G_isReplica_16 (by decide)) ?_
  exact SS.fall
theorem b_G_isReplica_17 {l : Launch} {D : va_G} {cid : Nat → ClassId} {X : CT} {Post : PT} (hX : OK l D cid m_G_isReplica X Post) : SS l D cid m_G_isReplica X 17 [] (t_zret Post) := by
  exact st_zret hX d_G_isReplica_17 rfl
abbrev m_G_isClient : MT := (⟨"GroupLog", "isClient", "(I)Z"⟩, prog_1_method_22_code, 1, (some FieldType.boolean), { frames := 0, cells := 0, slots := 0, locals := 0 })
theorem pf_G_isClient : plainFor m_G_isClient.1 = true := by decide +kernel
theorem d_G_isClient_0 : decode prog_1_method_22_code 0 = .ok (.iload_n 0, 1) := by decide +kernel
theorem d_G_isClient_1 : decode prog_1_method_22_code 1 = .ok (.ifCond .lt 12, 3) := by decide +kernel
theorem d_G_isClient_4 : decode prog_1_method_22_code 4 = .ok (.iload_n 0, 1) := by decide +kernel
theorem d_G_isClient_5 : decode prog_1_method_22_code 5 = .ok (.iconst 4, 1) := by decide +kernel
theorem d_G_isClient_6 : decode prog_1_method_22_code 6 = .ok (.if_icmp .ge 7, 3) := by decide +kernel
theorem d_G_isClient_9 : decode prog_1_method_22_code 9 = .ok (.iconst 1, 1) := by decide +kernel
theorem d_G_isClient_10 : decode prog_1_method_22_code 10 = .ok (.goto 4, 3) := by decide +kernel
theorem d_G_isClient_13 : decode prog_1_method_22_code 13 = .ok (.iconst 0, 1) := by decide +kernel
theorem d_G_isClient_14 : decode prog_1_method_22_code 14 = .ok (.ireturn, 1) := by decide +kernel
theorem b_G_isClient_0 {l : Launch} {D : va_G} {cid : Nat → ClassId} {X : CT} {Post : PT} (hX : OK l D cid m_G_isClient X Post) : SS l D cid m_G_isClient X 0 [o_iload 0] (t_if (fun x => x < 0) (FR l D cid m_G_isClient X 13) (FR l D cid m_G_isClient X 4)) := by
  refine SS.cons (so_iload_n hX d_G_isClient_0 rfl) ?_
  exact st_if_lt hX d_G_isClient_1 (by decide)
theorem b_G_isClient_4 {l : Launch} {D : va_G} {cid : Nat → ClassId} {X : CT} {Post : PT} (hX : OK l D cid m_G_isClient X Post) : SS l D cid m_G_isClient X 4 [o_iload 0, o_push (.int 4)] (t_cmp (fun x y => y ≤ x) (FR l D cid m_G_isClient X 13) (FR l D cid m_G_isClient X 9)) := by
  refine SS.cons (so_iload_n hX d_G_isClient_4 rfl) ?_
  refine SS.cons (so_iconst hX d_G_isClient_5 (by decide)) ?_
  exact st_icmp_ge hX d_G_isClient_6 (by decide)
theorem b_G_isClient_9 {l : Launch} {D : va_G} {cid : Nat → ClassId} {X : CT} {Post : PT} (hX : OK l D cid m_G_isClient X Post) : SS l D cid m_G_isClient X 9 [o_push (.int 1)] (FR l D cid m_G_isClient X 14) := by
  refine SS.cons (so_iconst hX d_G_isClient_9 (by decide)) ?_
  exact so_goto hX d_G_isClient_10 (by decide)
theorem b_G_isClient_13 {l : Launch} {D : va_G} {cid : Nat → ClassId} {X : CT} {Post : PT} (hX : OK l D cid m_G_isClient X Post) : SS l D cid m_G_isClient X 13 [o_push (.int 0)] (FR l D cid m_G_isClient X 14) := by
  refine SS.cons (so_iconst hX d_G_isClient_13 (by decide)) ?_
  exact SS.fall
theorem b_G_isClient_14 {l : Launch} {D : va_G} {cid : Nat → ClassId} {X : CT} {Post : PT} (hX : OK l D cid m_G_isClient X Post) : SS l D cid m_G_isClient X 14 [] (t_zret Post) := by
  exact st_zret hX d_G_isClient_14 rfl
abbrev m_G_primaryOf : MT := (⟨"GroupLog", "primaryOf", "(I)I"⟩, prog_1_method_24_code, 2, (some FieldType.int), { frames := 1, cells := 0, slots := 0, locals := 22 })
theorem pf_G_primaryOf : plainFor m_G_primaryOf.1 = true := by decide +kernel
theorem d_G_primaryOf_0 : decode prog_1_method_24_code 0 = .ok (.iload_n 1, 1) := by decide +kernel
theorem d_G_primaryOf_1 : decode prog_1_method_24_code 1 = .ok (.aload_n 0, 1) := by decide +kernel
theorem d_G_primaryOf_2 : decode prog_1_method_24_code 2 = .ok (.getfield 29, 3) := by decide +kernel
theorem d_G_primaryOf_5 : decode prog_1_method_24_code 5 = .ok (.invokestatic 158, 3) := by decide +kernel
theorem d_G_primaryOf_8 : decode prog_1_method_24_code 8 = .ok (.ireturn, 1) := by decide +kernel
theorem b_G_primaryOf_0 {l : Launch} {D : va_G} {cid : Nat → ClassId} {X : CT} {Post : PT} (hX : OK l D cid m_G_primaryOf X Post) : SS l D cid m_G_primaryOf X 0 [o_iload 1, o_aload 0, o_getf 3 0, o_callS l D cid m_J_floorMod 2] (t_iret Post) := by
  refine SS.cons (so_iload_n hX d_G_primaryOf_0 rfl) ?_
  refine SS.cons (so_aload_n hX d_G_primaryOf_1 rfl) ?_
  refine SS.cons (so_getf (C := R_G) (T := T_G) hX d_G_primaryOf_2 in_G rfl (by decide) k_159) ?_
  refine SS.cons (so_callS (M' := m_J_floorMod) hX d_G_primaryOf_5 k_205 k_203 k_204 k_49 pf_J_floorMod (by decide) (by decide +kernel) ⟨by decide, by decide⟩) ?_
  exact st_iret hX d_G_primaryOf_8 rfl
abbrev m_G_leads : MT := (⟨"GroupLog", "leads", "(LGroupLog$Replica;)Z"⟩, prog_1_method_25_code, 2, (some FieldType.boolean), { frames := 2, cells := 0, slots := 0, locals := 43 })
theorem pf_G_leads : plainFor m_G_leads.1 = true := by decide +kernel
theorem d_G_leads_0 : decode prog_1_method_25_code 0 = .ok (.aload_n 1, 1) := by decide +kernel
theorem d_G_leads_1 : decode prog_1_method_25_code 1 = .ok (.getfield 97, 3) := by decide +kernel
theorem d_G_leads_4 : decode prog_1_method_25_code 4 = .ok (.ifCond .ne 22, 3) := by decide +kernel
theorem d_G_leads_7 : decode prog_1_method_25_code 7 = .ok (.aload_n 0, 1) := by decide +kernel
theorem d_G_leads_8 : decode prog_1_method_25_code 8 = .ok (.aload_n 1, 1) := by decide +kernel
theorem d_G_leads_9 : decode prog_1_method_25_code 9 = .ok (.getfield 100, 3) := by decide +kernel
theorem d_G_leads_12 : decode prog_1_method_25_code 12 = .ok (.invokevirtual 161, 3) := by decide +kernel
theorem d_G_leads_15 : decode prog_1_method_25_code 15 = .ok (.aload_n 1, 1) := by decide +kernel
theorem d_G_leads_16 : decode prog_1_method_25_code 16 = .ok (.getfield 122, 3) := by decide +kernel
theorem d_G_leads_19 : decode prog_1_method_25_code 19 = .ok (.if_icmp .ne 7, 3) := by decide +kernel
theorem d_G_leads_22 : decode prog_1_method_25_code 22 = .ok (.iconst 1, 1) := by decide +kernel
theorem d_G_leads_23 : decode prog_1_method_25_code 23 = .ok (.goto 4, 3) := by decide +kernel
theorem d_G_leads_26 : decode prog_1_method_25_code 26 = .ok (.iconst 0, 1) := by decide +kernel
theorem d_G_leads_27 : decode prog_1_method_25_code 27 = .ok (.ireturn, 1) := by decide +kernel
theorem b_G_leads_0 {l : Launch} {D : va_G} {cid : Nat → ClassId} {X : CT} {Post : PT} (hX : OK l D cid m_G_leads X Post) : SS l D cid m_G_leads X 0 [o_aload 1, o_getf 2 1] (t_if (fun x => ¬ x = 0) (FR l D cid m_G_leads X 26) (FR l D cid m_G_leads X 7)) := by
  refine SS.cons (so_aload_n hX d_G_leads_0 rfl) ?_
  refine SS.cons (so_getf (C := R_P) (T := T_P) hX d_G_leads_1 in_P rfl (by decide) k_105) ?_
  exact st_if_ne hX d_G_leads_4 (by decide)
theorem b_G_leads_7 {l : Launch} {D : va_G} {cid : Nat → ClassId} {X : CT} {Post : PT} (hX : OK l D cid m_G_leads X Post) : SS l D cid m_G_leads X 7 [o_aload 0, o_aload 1, o_getf 2 2, o_callV l D cid m_G_primaryOf 3 1, o_aload 1, o_getf 2 0] (t_cmp (fun x y => ¬ x = y) (FR l D cid m_G_leads X 26) (FR l D cid m_G_leads X 22)) := by
  refine SS.cons (so_aload_n hX d_G_leads_7 rfl) ?_
  refine SS.cons (so_aload_n hX d_G_leads_8 rfl) ?_
  refine SS.cons (so_getf (C := R_P) (T := T_P) hX d_G_leads_9 in_P rfl (by decide) k_108) ?_
  refine SS.cons (so_callV (M' := m_G_primaryOf) (T := T_G) hX d_G_leads_12 rfl k_202 k_199 k_201 k_2 k_45 pf_G_primaryOf (by decide) (by decide +kernel) ⟨by decide, by decide⟩) ?_
  refine SS.cons (so_aload_n hX d_G_leads_15 rfl) ?_
  refine SS.cons (so_getf (C := R_P) (T := T_P) hX d_G_leads_16 in_P rfl (by decide) k_103) ?_
  exact st_icmp_ne hX d_G_leads_19 (by decide)
theorem b_G_leads_22 {l : Launch} {D : va_G} {cid : Nat → ClassId} {X : CT} {Post : PT} (hX : OK l D cid m_G_leads X Post) : SS l D cid m_G_leads X 22 [o_push (.int 1)] (FR l D cid m_G_leads X 27) := by
  refine SS.cons (so_iconst hX d_G_leads_22 (by decide)) ?_
  exact so_goto hX d_G_leads_23 (by decide)
theorem b_G_leads_26 {l : Launch} {D : va_G} {cid : Nat → ClassId} {X : CT} {Post : PT} (hX : OK l D cid m_G_leads X Post) : SS l D cid m_G_leads X 26 [o_push (.int 0)] (FR l D cid m_G_leads X 27) := by
  refine SS.cons (so_iconst hX d_G_leads_26 (by decide)) ?_
  exact SS.fall
theorem b_G_leads_27 {l : Launch} {D : va_G} {cid : Nat → ClassId} {X : CT} {Post : PT} (hX : OK l D cid m_G_leads X Post) : SS l D cid m_G_leads X 27 [] (t_zret Post) := by
  exact st_zret hX d_G_leads_27 rfl
abbrev m_G_answerClient : MT := (⟨"GroupLog", "answerClient", "(LGroupLog$Log;)V"⟩, prog_1_method_29_code, 2, (none : Option FieldType), { frames := 0, cells := 0, slots := 0, locals := 0 })
theorem pf_G_answerClient : plainFor m_G_answerClient.1 = true := by decide +kernel
theorem d_G_answerClient_0 : decode prog_1_method_29_code 0 = .ok (.aload_n 1, 1) := by decide +kernel
theorem d_G_answerClient_1 : decode prog_1_method_29_code 1 = .ok (.getfield 139, 3) := by decide +kernel
theorem d_G_answerClient_4 : decode prog_1_method_29_code 4 = .ok (.aload_n 0, 1) := by decide +kernel
theorem d_G_answerClient_5 : decode prog_1_method_29_code 5 = .ok (.getfield 22, 3) := by decide +kernel
theorem d_G_answerClient_8 : decode prog_1_method_29_code 8 = .ok (.aload_n 1, 1) := by decide +kernel
theorem d_G_answerClient_9 : decode prog_1_method_29_code 9 = .ok (.getfield 142, 3) := by decide +kernel
theorem d_G_answerClient_12 : decode prog_1_method_29_code 12 = .ok (.iaload, 1) := by decide +kernel
theorem d_G_answerClient_13 : decode prog_1_method_29_code 13 = .ok (.if_icmp .lt 29, 3) := by decide +kernel
theorem d_G_answerClient_16 : decode prog_1_method_29_code 16 = .ok (.aload_n 0, 1) := by decide +kernel
theorem d_G_answerClient_17 : decode prog_1_method_29_code 17 = .ok (.getfield 22, 3) := by decide +kernel
theorem d_G_answerClient_20 : decode prog_1_method_29_code 20 = .ok (.aload_n 1, 1) := by decide +kernel
theorem d_G_answerClient_21 : decode prog_1_method_29_code 21 = .ok (.getfield 142, 3) := by decide +kernel
theorem d_G_answerClient_24 : decode prog_1_method_29_code 24 = .ok (.aload_n 1, 1) := by decide +kernel
theorem d_G_answerClient_25 : decode prog_1_method_29_code 25 = .ok (.getfield 139, 3) := by decide +kernel
theorem d_G_answerClient_28 : decode prog_1_method_29_code 28 = .ok (.iastore, 1) := by decide +kernel
theorem d_G_answerClient_29 : decode prog_1_method_29_code 29 = .ok (.aload_n 0, 1) := by decide +kernel
theorem d_G_answerClient_30 : decode prog_1_method_29_code 30 = .ok (.getfield 26, 3) := by decide +kernel
theorem d_G_answerClient_33 : decode prog_1_method_29_code 33 = .ok (.aload_n 1, 1) := by decide +kernel
theorem d_G_answerClient_34 : decode prog_1_method_29_code 34 = .ok (.getfield 142, 3) := by decide +kernel
theorem d_G_answerClient_37 : decode prog_1_method_29_code 37 = .ok (.aload_n 1, 1) := by decide +kernel
theorem d_G_answerClient_38 : decode prog_1_method_29_code 38 = .ok (.getfield 145, 3) := by decide +kernel
theorem d_G_answerClient_41 : decode prog_1_method_29_code 41 = .ok (.iastore, 1) := by decide +kernel
theorem d_G_answerClient_42 : decode prog_1_method_29_code 42 = .ok (.return_, 1) := by decide +kernel
theorem b_G_answerClient_0 {l : Launch} {D : va_G} {cid : Nat → ClassId} {X : CT} {Post : PT} (hX : OK l D cid m_G_answerClient X Post) : SS l D cid m_G_answerClient X 0 [o_aload 1, o_getf 0 3, o_aload 0, o_getf 3 6, o_aload 1, o_getf 0 2, o_ald 0] (t_cmp (fun x y => x < y) (FR l D cid m_G_answerClient X 42) (FR l D cid m_G_answerClient X 16)) := by
  refine SS.cons (so_aload_n hX d_G_answerClient_0 rfl) ?_
  refine SS.cons (so_getf (C := R_L) (T := T_L) hX d_G_answerClient_1 in_L rfl (by decide) k_81) ?_
  refine SS.cons (so_aload_n hX d_G_answerClient_4 rfl) ?_
  refine SS.cons (so_getf (C := R_G) (T := T_G) hX d_G_answerClient_5 in_G rfl (by decide) k_165) ?_
  refine SS.cons (so_aload_n hX d_G_answerClient_8 rfl) ?_
  refine SS.cons (so_getf (C := R_L) (T := T_L) hX d_G_answerClient_9 in_L rfl (by decide) k_79) ?_
  refine SS.cons (so_iald hX d_G_answerClient_12) ?_
  exact st_icmp_lt hX d_G_answerClient_13 (by decide)
theorem b_G_answerClient_16 {l : Launch} {D : va_G} {cid : Nat → ClassId} {X : CT} {Post : PT} (hX : OK l D cid m_G_answerClient X Post) : SS l D cid m_G_answerClient X 16 [o_aload 0, o_getf 3 6, o_aload 1, o_getf 0 2, o_aload 1, o_getf 0 3, o_ast, o_aload 0, o_getf 3 7, o_aload 1, o_getf 0 2, o_aload 1, o_getf 0 5, o_ast] (FR l D cid m_G_answerClient X 42) := by
  refine SS.cons (so_aload_n hX d_G_answerClient_16 rfl) ?_
  refine SS.cons (so_getf (C := R_G) (T := T_G) hX d_G_answerClient_17 in_G rfl (by decide) k_165) ?_
  refine SS.cons (so_aload_n hX d_G_answerClient_20 rfl) ?_
  refine SS.cons (so_getf (C := R_L) (T := T_L) hX d_G_answerClient_21 in_L rfl (by decide) k_79) ?_
  refine SS.cons (so_aload_n hX d_G_answerClient_24 rfl) ?_
  refine SS.cons (so_getf (C := R_L) (T := T_L) hX d_G_answerClient_25 in_L rfl (by decide) k_81) ?_
  refine SS.cons (so_iast hX d_G_answerClient_28) ?_
  refine SS.cons (so_aload_n hX d_G_answerClient_29 rfl) ?_
  refine SS.cons (so_getf (C := R_G) (T := T_G) hX d_G_answerClient_30 in_G rfl (by decide) k_166) ?_
  refine SS.cons (so_aload_n hX d_G_answerClient_33 rfl) ?_
  refine SS.cons (so_getf (C := R_L) (T := T_L) hX d_G_answerClient_34 in_L rfl (by decide) k_79) ?_
  refine SS.cons (so_aload_n hX d_G_answerClient_37 rfl) ?_
  refine SS.cons (so_getf (C := R_L) (T := T_L) hX d_G_answerClient_38 in_L rfl (by decide) k_85) ?_
  refine SS.cons (so_iast hX d_G_answerClient_41) ?_
  exact SS.fall
theorem b_G_answerClient_42 {l : Launch} {D : va_G} {cid : Nat → ClassId} {X : CT} {Post : PT} (hX : OK l D cid m_G_answerClient X Post) : SS l D cid m_G_answerClient X 42 [] (t_ret Post) := by
  exact st_ret hX d_G_answerClient_42 rfl
abbrev m_G_repeatAnswer : MT := (⟨"GroupLog", "repeatAnswer", "(LGroupLog$Replica;LGroupLog$Log;)I"⟩, prog_1_method_28_code, 3, (some FieldType.int), { frames := 1, cells := 0, slots := 0, locals := 21 })
theorem pf_G_repeatAnswer : plainFor m_G_repeatAnswer.1 = true := by decide +kernel
theorem d_G_repeatAnswer_0 : decode prog_1_method_28_code 0 = .ok (.aload_n 2, 1) := by decide +kernel
theorem d_G_repeatAnswer_1 : decode prog_1_method_28_code 1 = .ok (.getfield 73, 3) := by decide +kernel
theorem d_G_repeatAnswer_4 : decode prog_1_method_28_code 4 = .ok (.aload_n 1, 1) := by decide +kernel
theorem d_G_repeatAnswer_5 : decode prog_1_method_28_code 5 = .ok (.getfield 125, 3) := by decide +kernel
theorem d_G_repeatAnswer_8 : decode prog_1_method_28_code 8 = .ok (.if_icmp .le 5, 3) := by decide +kernel
theorem d_G_repeatAnswer_11 : decode prog_1_method_28_code 11 = .ok (.iconst 2, 1) := by decide +kernel
theorem d_G_repeatAnswer_12 : decode prog_1_method_28_code 12 = .ok (.ireturn, 1) := by decide +kernel
theorem d_G_repeatAnswer_13 : decode prog_1_method_28_code 13 = .ok (.aload_n 0, 1) := by decide +kernel
theorem d_G_repeatAnswer_14 : decode prog_1_method_28_code 14 = .ok (.aload_n 2, 1) := by decide +kernel
theorem d_G_repeatAnswer_15 : decode prog_1_method_28_code 15 = .ok (.invokevirtual 164, 3) := by decide +kernel
theorem d_G_repeatAnswer_18 : decode prog_1_method_28_code 18 = .ok (.iconst 1, 1) := by decide +kernel
theorem d_G_repeatAnswer_19 : decode prog_1_method_28_code 19 = .ok (.ireturn, 1) := by decide +kernel
theorem b_G_repeatAnswer_0 {l : Launch} {D : va_G} {cid : Nat → ClassId} {X : CT} {Post : PT} (hX : OK l D cid m_G_repeatAnswer X Post) : SS l D cid m_G_repeatAnswer X 0 [o_aload 2, o_getf 0 1, o_aload 1, o_getf 2 5] (t_cmp (fun x y => x ≤ y) (FR l D cid m_G_repeatAnswer X 13) (FR l D cid m_G_repeatAnswer X 11)) := by
  refine SS.cons (so_aload_n hX d_G_repeatAnswer_0 rfl) ?_
  refine SS.cons (so_getf (C := R_L) (T := T_L) hX d_G_repeatAnswer_1 in_L rfl (by decide) k_76) ?_
  refine SS.cons (so_aload_n hX d_G_repeatAnswer_4 rfl) ?_
  refine SS.cons (so_getf (C := R_P) (T := T_P) hX d_G_repeatAnswer_5 in_P rfl (by decide) k_116) ?_
  exact st_icmp_le hX d_G_repeatAnswer_8 (by decide)
theorem b_G_repeatAnswer_11 {l : Launch} {D : va_G} {cid : Nat → ClassId} {X : CT} {Post : PT} (hX : OK l D cid m_G_repeatAnswer X Post) : SS l D cid m_G_repeatAnswer X 11 [o_push (.int 2)] (t_iret Post) := by
  refine SS.cons (so_iconst hX d_G_repeatAnswer_11 (by decide)) ?_
  exact st_iret hX d_G_repeatAnswer_12 rfl
theorem b_G_repeatAnswer_13 {l : Launch} {D : va_G} {cid : Nat → ClassId} {X : CT} {Post : PT} (hX : OK l D cid m_G_repeatAnswer X Post) : SS l D cid m_G_repeatAnswer X 13 [o_aload 0, o_aload 2, o_callV l D cid m_G_answerClient 3 1, o_push (.int 1)] (t_iret Post) := by
  refine SS.cons (so_aload_n hX d_G_repeatAnswer_13 rfl) ?_
  refine SS.cons (so_aload_n hX d_G_repeatAnswer_14 rfl) ?_
  refine SS.cons (so_callV (M' := m_G_answerClient) (T := T_G) hX d_G_repeatAnswer_15 rfl k_224 k_221 k_223 k_4 k_45 pf_G_answerClient (by decide) (by decide +kernel) ⟨by decide, by decide⟩) ?_
  refine SS.cons (so_iconst hX d_G_repeatAnswer_18 (by decide)) ?_
  exact st_iret hX d_G_repeatAnswer_19 rfl
abbrev m_G_send : MT := (⟨"GroupLog", "send", "(LGroupLog$Replica;II)V"⟩, prog_1_method_31_code, 4, (none : Option FieldType), { frames := 2, cells := 1, slots := 8, locals := 43 })
theorem pf_G_send : plainFor m_G_send.1 = true := by decide +kernel
theorem d_G_send_0 : decode prog_1_method_31_code 0 = .ok (.aload_n 0, 1) := by decide +kernel
theorem d_G_send_1 : decode prog_1_method_31_code 1 = .ok (.getfield 11, 3) := by decide +kernel
theorem d_G_send_4 : decode prog_1_method_31_code 4 = .ok (.aload_n 0, 1) := by decide +kernel
theorem d_G_send_5 : decode prog_1_method_31_code 5 = .ok (.getfield 15, 3) := by decide +kernel
theorem d_G_send_8 : decode prog_1_method_31_code 8 = .ok (.bipush 64, 2) := by decide +kernel
theorem d_G_send_10 : decode prog_1_method_31_code 10 = .ok (.invokestatic 158, 3) := by decide +kernel
theorem d_G_send_13 : decode prog_1_method_31_code 13 = .ok (.new 9, 3) := by decide +kernel
theorem d_G_send_16 : decode prog_1_method_31_code 16 = .ok (.dup, 1) := by decide +kernel
theorem d_G_send_17 : decode prog_1_method_31_code 17 = .ok (.aload_n 1, 1) := by decide +kernel
theorem d_G_send_18 : decode prog_1_method_31_code 18 = .ok (.iload_n 2, 1) := by decide +kernel
theorem d_G_send_19 : decode prog_1_method_31_code 19 = .ok (.iload_n 3, 1) := by decide +kernel
theorem d_G_send_20 : decode prog_1_method_31_code 20 = .ok (.invokespecial 168, 3) := by decide +kernel
theorem d_G_send_23 : decode prog_1_method_31_code 23 = .ok (.aastore, 1) := by decide +kernel
theorem d_G_send_24 : decode prog_1_method_31_code 24 = .ok (.aload_n 0, 1) := by decide +kernel
theorem d_G_send_25 : decode prog_1_method_31_code 25 = .ok (.dup, 1) := by decide +kernel
theorem d_G_send_26 : decode prog_1_method_31_code 26 = .ok (.getfield 15, 3) := by decide +kernel
theorem d_G_send_29 : decode prog_1_method_31_code 29 = .ok (.iconst 1, 1) := by decide +kernel
theorem d_G_send_30 : decode prog_1_method_31_code 30 = .ok (.iadd, 1) := by decide +kernel
theorem d_G_send_31 : decode prog_1_method_31_code 31 = .ok (.putfield 15, 3) := by decide +kernel
theorem d_G_send_34 : decode prog_1_method_31_code 34 = .ok (.return_, 1) := by decide +kernel
theorem b_G_send_0 {l : Launch} {D : va_G} {cid : Nat → ClassId} {X : CT} {Post : PT} (hX : OK l D cid m_G_send X Post) : SS l D cid m_G_send X 0 [o_aload 0, o_getf 3 3, o_aload 0, o_getf 3 4, o_push (.int 64), o_callS l D cid m_J_floorMod 2, o_new 1 8 df_E, o_dup, o_aload 1, o_iload 2, o_iload 3, o_callI l D cid m_E_init 3, o_astq 2 1, o_aload 0, o_dup, o_getf 3 4, o_push (.int 1), o_bin (fun x y => x + y), o_put okI 3 4] (t_ret Post) := by
  refine SS.cons (so_aload_n hX d_G_send_0 rfl) ?_
  refine SS.cons (so_getf (C := R_G) (T := T_G) hX d_G_send_1 in_G rfl (by decide) k_162) ?_
  refine SS.cons (so_aload_n hX d_G_send_4 rfl) ?_
  refine SS.cons (so_getf (C := R_G) (T := T_G) hX d_G_send_5 in_G rfl (by decide) k_163) ?_
  refine SS.cons (so_bipush hX d_G_send_8 (by decide)) ?_
  refine SS.cons (so_callS (M' := m_J_floorMod) hX d_G_send_10 k_205 k_203 k_204 k_49 pf_J_floorMod (by decide) (by decide +kernel) ⟨by decide, by decide⟩) ?_
  refine SS.cons (so_new (C := R_E) (T := T_E) hX d_G_send_13 in_E ty_E k_59 k_237 k_50 rfl dv_E) ?_
  refine SS.cons (so_dup hX d_G_send_16) ?_
  refine SS.cons (so_aload_n hX d_G_send_17 rfl) ?_
  refine SS.cons (so_iload_n hX d_G_send_18 rfl) ?_
  refine SS.cons (so_iload_n hX d_G_send_19 rfl) ?_
  refine SS.cons (so_callI (M' := m_E_init) hX d_G_send_20 k_240 rfl k_238 k_239 k_50 rfl pf_E_init (by decide) (by decide +kernel) ⟨by decide, by decide⟩) ?_
  refine SS.cons (so_astq (r0 := (R_E, T_E, 8)) hX d_G_send_23 rfl rfl) ?_
  refine SS.cons (so_aload_n hX d_G_send_24 rfl) ?_
  refine SS.cons (so_dup hX d_G_send_25) ?_
  refine SS.cons (so_getf (C := R_G) (T := T_G) hX d_G_send_26 in_G rfl (by decide) k_163) ?_
  refine SS.cons (so_iconst hX d_G_send_29 (by decide)) ?_
  refine SS.cons (so_iadd hX d_G_send_30) ?_
  refine SS.cons (so_put (C := R_G) (T := T_G) ok_I hX d_G_send_31 in_G ty_G nm_G rfl (by decide) k_163 rfl rfl) ?_
  exact st_ret hX d_G_send_34 rfl
abbrev m_G_sendToAll : MT := (⟨"GroupLog", "sendToAll", "(LGroupLog$Replica;I)V"⟩, prog_1_method_32_code, 4, (none : Option FieldType), { frames := 3, cells := 5, slots := 40, locals := 66 })
theorem pf_G_sendToAll : plainFor m_G_sendToAll.1 = true := by decide +kernel
theorem d_G_sendToAll_0 : decode prog_1_method_32_code 0 = .ok (.iconst 0, 1) := by decide +kernel
theorem d_G_sendToAll_1 : decode prog_1_method_32_code 1 = .ok (.istore_n 3, 1) := by decide +kernel
theorem d_G_sendToAll_2 : decode prog_1_method_32_code 2 = .ok (.iload_n 3, 1) := by decide +kernel
theorem d_G_sendToAll_3 : decode prog_1_method_32_code 3 = .ok (.aload_n 0, 1) := by decide +kernel
theorem d_G_sendToAll_4 : decode prog_1_method_32_code 4 = .ok (.getfield 29, 3) := by decide +kernel
theorem d_G_sendToAll_7 : decode prog_1_method_32_code 7 = .ok (.if_icmp .ge 24, 3) := by decide +kernel
theorem d_G_sendToAll_10 : decode prog_1_method_32_code 10 = .ok (.iload_n 3, 1) := by decide +kernel
theorem d_G_sendToAll_11 : decode prog_1_method_32_code 11 = .ok (.aload_n 1, 1) := by decide +kernel
theorem d_G_sendToAll_12 : decode prog_1_method_32_code 12 = .ok (.getfield 122, 3) := by decide +kernel
theorem d_G_sendToAll_15 : decode prog_1_method_32_code 15 = .ok (.if_icmp .eq 10, 3) := by decide +kernel
theorem d_G_sendToAll_18 : decode prog_1_method_32_code 18 = .ok (.aload_n 0, 1) := by decide +kernel
theorem d_G_sendToAll_19 : decode prog_1_method_32_code 19 = .ok (.aload_n 1, 1) := by decide +kernel
theorem d_G_sendToAll_20 : decode prog_1_method_32_code 20 = .ok (.iload_n 2, 1) := by decide +kernel
theorem d_G_sendToAll_21 : decode prog_1_method_32_code 21 = .ok (.iload_n 3, 1) := by decide +kernel
theorem d_G_sendToAll_22 : decode prog_1_method_32_code 22 = .ok (.invokevirtual 171, 3) := by decide +kernel
theorem d_G_sendToAll_25 : decode prog_1_method_32_code 25 = .ok (.iinc 3 1, 3) := by decide +kernel
theorem d_G_sendToAll_28 : decode prog_1_method_32_code 28 = .ok (.goto (-26), 3) := by decide +kernel
theorem d_G_sendToAll_31 : decode prog_1_method_32_code 31 = .ok (.return_, 1) := by decide +kernel
theorem b_G_sendToAll_0 {l : Launch} {D : va_G} {cid : Nat → ClassId} {X : CT} {Post : PT} (hX : OK l D cid m_G_sendToAll X Post) : SS l D cid m_G_sendToAll X 0 [o_push (.int 0), o_istore 3] (FR l D cid m_G_sendToAll X 2) := by
  refine SS.cons (so_iconst hX d_G_sendToAll_0 (by decide)) ?_
  refine SS.cons (so_istore_n hX d_G_sendToAll_1 rfl (by decide)) ?_
  exact SS.fall
theorem b_G_sendToAll_2 {l : Launch} {D : va_G} {cid : Nat → ClassId} {X : CT} {Post : PT} (hX : OK l D cid m_G_sendToAll X Post) : SS l D cid m_G_sendToAll X 2 [o_iload 3, o_aload 0, o_getf 3 0] (t_cmp (fun x y => y ≤ x) (FR l D cid m_G_sendToAll X 31) (FR l D cid m_G_sendToAll X 10)) := by
  refine SS.cons (so_iload_n hX d_G_sendToAll_2 rfl) ?_
  refine SS.cons (so_aload_n hX d_G_sendToAll_3 rfl) ?_
  refine SS.cons (so_getf (C := R_G) (T := T_G) hX d_G_sendToAll_4 in_G rfl (by decide) k_159) ?_
  exact st_icmp_ge hX d_G_sendToAll_7 (by decide)
theorem b_G_sendToAll_10 {l : Launch} {D : va_G} {cid : Nat → ClassId} {X : CT} {Post : PT} (hX : OK l D cid m_G_sendToAll X Post) : SS l D cid m_G_sendToAll X 10 [o_iload 3, o_aload 1, o_getf 2 0] (t_cmp (fun x y => x = y) (FR l D cid m_G_sendToAll X 25) (FR l D cid m_G_sendToAll X 18)) := by
  refine SS.cons (so_iload_n hX d_G_sendToAll_10 rfl) ?_
  refine SS.cons (so_aload_n hX d_G_sendToAll_11 rfl) ?_
  refine SS.cons (so_getf (C := R_P) (T := T_P) hX d_G_sendToAll_12 in_P rfl (by decide) k_103) ?_
  exact st_icmp_eq hX d_G_sendToAll_15 (by decide)
theorem b_G_sendToAll_18 {l : Launch} {D : va_G} {cid : Nat → ClassId} {X : CT} {Post : PT} (hX : OK l D cid m_G_sendToAll X Post) : SS l D cid m_G_sendToAll X 18 [o_aload 0, o_aload 1, o_iload 2, o_iload 3, o_callV l D cid m_G_send 3 3] (FR l D cid m_G_sendToAll X 25) := by
  refine SS.cons (so_aload_n hX d_G_sendToAll_18 rfl) ?_
  refine SS.cons (so_aload_n hX d_G_sendToAll_19 rfl) ?_
  refine SS.cons (so_iload_n hX d_G_sendToAll_20 rfl) ?_
  refine SS.cons (so_iload_n hX d_G_sendToAll_21 rfl) ?_
  refine SS.cons (so_callV (M' := m_G_send) (T := T_G) hX d_G_sendToAll_22 rfl k_236 k_233 k_235 k_6 k_45 pf_G_send (by decide) (by decide +kernel) ⟨by decide, by decide⟩) ?_
  exact SS.fall
theorem b_G_sendToAll_25 {l : Launch} {D : va_G} {cid : Nat → ClassId} {X : CT} {Post : PT} (hX : OK l D cid m_G_sendToAll X Post) : SS l D cid m_G_sendToAll X 25 [o_iinc 3 1] (FR l D cid m_G_sendToAll X 2) := by
  refine SS.cons (so_iinc hX d_G_sendToAll_25 (by decide) (by decide)) ?_
  exact so_goto hX d_G_sendToAll_28 (by decide)
theorem b_G_sendToAll_31 {l : Launch} {D : va_G} {cid : Nat → ClassId} {X : CT} {Post : PT} (hX : OK l D cid m_G_sendToAll X Post) : SS l D cid m_G_sendToAll X 31 [] (t_ret Post) := by
  exact st_ret hX d_G_sendToAll_31 rfl
abbrev m_G_request : MT := (⟨"GroupLog", "request", "(IIII)I"⟩, prog_1_method_2_code, 7, (some FieldType.int), { frames := 4, cells := 6, slots := 46, locals := 89 })
theorem pf_G_request : plainFor m_G_request.1 = true := by decide +kernel
theorem d_G_request_0 : decode prog_1_method_2_code 0 = .ok (.aload_n 0, 1) := by decide +kernel
theorem d_G_request_1 : decode prog_1_method_2_code 1 = .ok (.iload_n 1, 1) := by decide +kernel
theorem d_G_request_2 : decode prog_1_method_2_code 2 = .ok (.invokevirtual 44, 3) := by decide +kernel
theorem d_G_request_5 : decode prog_1_method_2_code 5 = .ok (.ifCond .eq 15, 3) := by decide +kernel
theorem d_G_request_8 : decode prog_1_method_2_code 8 = .ok (.iload_n 2, 1) := by decide +kernel
theorem d_G_request_9 : decode prog_1_method_2_code 9 = .ok (.invokestatic 48, 3) := by decide +kernel
theorem d_G_request_12 : decode prog_1_method_2_code 12 = .ok (.ifCond .eq 8, 3) := by decide +kernel
theorem d_G_request_15 : decode prog_1_method_2_code 15 = .ok (.iload_n 3, 1) := by decide +kernel
theorem d_G_request_16 : decode prog_1_method_2_code 16 = .ok (.iconst 1, 1) := by decide +kernel
theorem d_G_request_17 : decode prog_1_method_2_code 17 = .ok (.if_icmp .ge 5, 3) := by decide +kernel
theorem d_G_request_20 : decode prog_1_method_2_code 20 = .ok (.iconst (-1), 1) := by decide +kernel
theorem d_G_request_21 : decode prog_1_method_2_code 21 = .ok (.ireturn, 1) := by decide +kernel
theorem d_G_request_22 : decode prog_1_method_2_code 22 = .ok (.aload_n 0, 1) := by decide +kernel
theorem d_G_request_23 : decode prog_1_method_2_code 23 = .ok (.getfield 37, 3) := by decide +kernel
theorem d_G_request_26 : decode prog_1_method_2_code 26 = .ok (.iload_n 1, 1) := by decide +kernel
theorem d_G_request_27 : decode prog_1_method_2_code 27 = .ok (.aaload, 1) := by decide +kernel
theorem d_G_request_28 : decode prog_1_method_2_code 28 = .ok (.astore 5, 2) := by decide +kernel
theorem d_G_request_30 : decode prog_1_method_2_code 30 = .ok (.aload_n 0, 1) := by decide +kernel
theorem d_G_request_31 : decode prog_1_method_2_code 31 = .ok (.aload 5, 2) := by decide +kernel
theorem d_G_request_33 : decode prog_1_method_2_code 33 = .ok (.invokevirtual 51, 3) := by decide +kernel
theorem d_G_request_36 : decode prog_1_method_2_code 36 = .ok (.ifCond .ne 6, 3) := by decide +kernel
theorem d_G_request_39 : decode prog_1_method_2_code 39 = .ok (.bipush (-2), 2) := by decide +kernel
theorem d_G_request_41 : decode prog_1_method_2_code 41 = .ok (.ireturn, 1) := by decide +kernel
theorem d_G_request_42 : decode prog_1_method_2_code 42 = .ok (.aload 5, 2) := by decide +kernel
theorem d_G_request_44 : decode prog_1_method_2_code 44 = .ok (.getfield 55, 3) := by decide +kernel
theorem d_G_request_47 : decode prog_1_method_2_code 47 = .ok (.iload_n 2, 1) := by decide +kernel
theorem d_G_request_48 : decode prog_1_method_2_code 48 = .ok (.invokevirtual 59, 3) := by decide +kernel
theorem d_G_request_51 : decode prog_1_method_2_code 51 = .ok (.iload_n 3, 1) := by decide +kernel
theorem d_G_request_52 : decode prog_1_method_2_code 52 = .ok (.if_icmp .le 6, 3) := by decide +kernel
theorem d_G_request_55 : decode prog_1_method_2_code 55 = .ok (.bipush (-3), 2) := by decide +kernel
theorem d_G_request_57 : decode prog_1_method_2_code 57 = .ok (.ireturn, 1) := by decide +kernel
theorem d_G_request_58 : decode prog_1_method_2_code 58 = .ok (.aload 5, 2) := by decide +kernel
theorem d_G_request_60 : decode prog_1_method_2_code 60 = .ok (.getfield 55, 3) := by decide +kernel
theorem d_G_request_63 : decode prog_1_method_2_code 63 = .ok (.iload_n 2, 1) := by decide +kernel
theorem d_G_request_64 : decode prog_1_method_2_code 64 = .ok (.iload_n 3, 1) := by decide +kernel
theorem d_G_request_65 : decode prog_1_method_2_code 65 = .ok (.invokevirtual 65, 3) := by decide +kernel
theorem d_G_request_68 : decode prog_1_method_2_code 68 = .ok (.astore 6, 2) := by decide +kernel
theorem d_G_request_70 : decode prog_1_method_2_code 70 = .ok (.aload 6, 2) := by decide +kernel
theorem d_G_request_72 : decode prog_1_method_2_code 72 = .ok (.ifnull 12, 3) := by decide +kernel
theorem d_G_request_75 : decode prog_1_method_2_code 75 = .ok (.aload_n 0, 1) := by decide +kernel
theorem d_G_request_76 : decode prog_1_method_2_code 76 = .ok (.aload 5, 2) := by decide +kernel
theorem d_G_request_78 : decode prog_1_method_2_code 78 = .ok (.aload 6, 2) := by decide +kernel
theorem d_G_request_80 : decode prog_1_method_2_code 80 = .ok (.invokevirtual 69, 3) := by decide +kernel
theorem d_G_request_83 : decode prog_1_method_2_code 83 = .ok (.ireturn, 1) := by decide +kernel
theorem d_G_request_84 : decode prog_1_method_2_code 84 = .ok (.aload 5, 2) := by decide +kernel
theorem d_G_request_86 : decode prog_1_method_2_code 86 = .ok (.getfield 55, 3) := by decide +kernel
theorem d_G_request_89 : decode prog_1_method_2_code 89 = .ok (.getfield 73, 3) := by decide +kernel
theorem d_G_request_92 : decode prog_1_method_2_code 92 = .ok (.bipush 24, 2) := by decide +kernel
theorem d_G_request_94 : decode prog_1_method_2_code 94 = .ok (.if_icmp .lt 6, 3) := by decide +kernel
theorem d_G_request_97 : decode prog_1_method_2_code 97 = .ok (.bipush (-4), 2) := by decide +kernel
theorem d_G_request_99 : decode prog_1_method_2_code 99 = .ok (.ireturn, 1) := by decide +kernel
theorem d_G_request_100 : decode prog_1_method_2_code 100 = .ok (.aload 5, 2) := by decide +kernel
theorem d_G_request_102 : decode prog_1_method_2_code 102 = .ok (.new 60, 3) := by decide +kernel
theorem d_G_request_105 : decode prog_1_method_2_code 105 = .ok (.dup, 1) := by decide +kernel
theorem d_G_request_106 : decode prog_1_method_2_code 106 = .ok (.aload 5, 2) := by decide +kernel
theorem d_G_request_108 : decode prog_1_method_2_code 108 = .ok (.getfield 55, 3) := by decide +kernel
theorem d_G_request_111 : decode prog_1_method_2_code 111 = .ok (.iload_n 2, 1) := by decide +kernel
theorem d_G_request_112 : decode prog_1_method_2_code 112 = .ok (.iload_n 3, 1) := by decide +kernel
theorem d_G_request_113 : decode prog_1_method_2_code 113 = .ok (.iload 4, 2) := by decide +kernel
theorem d_G_request_115 : decode prog_1_method_2_code 115 = .ok (.invokespecial 76, 3) := by decide +kernel
theorem d_G_request_118 : decode prog_1_method_2_code 118 = .ok (.putfield 55, 3) := by decide +kernel
theorem d_G_request_121 : decode prog_1_method_2_code 121 = .ok (.aload_n 0, 1) := by decide +kernel
theorem d_G_request_122 : decode prog_1_method_2_code 122 = .ok (.aload 5, 2) := by decide +kernel
theorem d_G_request_124 : decode prog_1_method_2_code 124 = .ok (.iconst 1, 1) := by decide +kernel
theorem d_G_request_125 : decode prog_1_method_2_code 125 = .ok (.invokevirtual 79, 3) := by decide +kernel
theorem d_G_request_128 : decode prog_1_method_2_code 128 = .ok (.iconst 0, 1) := by decide +kernel
theorem d_G_request_129 : decode prog_1_method_2_code 129 = .ok (.ireturn, 1) := by decide +kernel
theorem b_G_request_0 {l : Launch} {D : va_G} {cid : Nat → ClassId} {X : CT} {Post : PT} (hX : OK l D cid m_G_request X Post) : SS l D cid m_G_request X 0 [o_aload 0, o_iload 1, o_callV l D cid m_G_isReplica 3 1] (t_if (fun x => x = 0) (FR l D cid m_G_request X 20) (FR l D cid m_G_request X 8)) := by
  refine SS.cons (so_aload_n hX d_G_request_0 rfl) ?_
  refine SS.cons (so_iload_n hX d_G_request_1 rfl) ?_
  refine SS.cons (so_callV (M' := m_G_isReplica) (T := T_G) hX d_G_request_2 rfl k_191 k_188 k_190 k_0 k_45 pf_G_isReplica (by decide) (by decide +kernel) ⟨by decide, by decide⟩) ?_
  exact st_if_eq hX d_G_request_5 (by decide)
theorem b_G_request_8 {l : Launch} {D : va_G} {cid : Nat → ClassId} {X : CT} {Post : PT} (hX : OK l D cid m_G_request X Post) : SS l D cid m_G_request X 8 [o_iload 2, o_callS l D cid m_G_isClient 1] (t_if (fun x => x = 0) (FR l D cid m_G_request X 20) (FR l D cid m_G_request X 15)) := by
  refine SS.cons (so_iload_n hX d_G_request_8 rfl) ?_
  refine SS.cons (so_callS (M' := m_G_isClient) hX d_G_request_9 k_194 k_192 k_193 k_45 pf_G_isClient (by decide) (by decide +kernel) ⟨by decide, by decide⟩) ?_
  exact st_if_eq hX d_G_request_12 (by decide)
theorem b_G_request_15 {l : Launch} {D : va_G} {cid : Nat → ClassId} {X : CT} {Post : PT} (hX : OK l D cid m_G_request X Post) : SS l D cid m_G_request X 15 [o_iload 3, o_push (.int 1)] (t_cmp (fun x y => y ≤ x) (FR l D cid m_G_request X 22) (FR l D cid m_G_request X 20)) := by
  refine SS.cons (so_iload_n hX d_G_request_15 rfl) ?_
  refine SS.cons (so_iconst hX d_G_request_16 (by decide)) ?_
  exact st_icmp_ge hX d_G_request_17 (by decide)
theorem b_G_request_20 {l : Launch} {D : va_G} {cid : Nat → ClassId} {X : CT} {Post : PT} (hX : OK l D cid m_G_request X Post) : SS l D cid m_G_request X 20 [o_push (.int (-1))] (t_iret Post) := by
  refine SS.cons (so_iconst hX d_G_request_20 (by decide)) ?_
  exact st_iret hX d_G_request_21 rfl
theorem b_G_request_22 {l : Launch} {D : va_G} {cid : Nat → ClassId} {X : CT} {Post : PT} (hX : OK l D cid m_G_request X Post) : SS l D cid m_G_request X 22 [o_aload 0, o_getf 3 2, o_iload 1, o_aldq 3, o_astore 5, o_aload 0, o_aload 5, o_callV l D cid m_G_leads 3 1] (t_if (fun x => ¬ x = 0) (FR l D cid m_G_request X 42) (FR l D cid m_G_request X 39)) := by
  refine SS.cons (so_aload_n hX d_G_request_22 rfl) ?_
  refine SS.cons (so_getf (C := R_G) (T := T_G) hX d_G_request_23 in_G rfl (by decide) k_161) ?_
  refine SS.cons (so_iload_n hX d_G_request_26 rfl) ?_
  refine SS.cons (so_aldq hX d_G_request_27 rfl) ?_
  refine SS.cons (so_astore hX d_G_request_28 (by decide)) ?_
  refine SS.cons (so_aload_n hX d_G_request_30 rfl) ?_
  refine SS.cons (so_aload hX d_G_request_31) ?_
  refine SS.cons (so_callV (M' := m_G_leads) (T := T_G) hX d_G_request_33 rfl k_198 k_195 k_197 k_1 k_45 pf_G_leads (by decide) (by decide +kernel) ⟨by decide, by decide⟩) ?_
  exact st_if_ne hX d_G_request_36 (by decide)
theorem b_G_request_39 {l : Launch} {D : va_G} {cid : Nat → ClassId} {X : CT} {Post : PT} (hX : OK l D cid m_G_request X Post) : SS l D cid m_G_request X 39 [o_push (.int (-2))] (t_iret Post) := by
  refine SS.cons (so_bipush hX d_G_request_39 (by decide)) ?_
  exact st_iret hX d_G_request_41 rfl
theorem b_G_request_42 {l : Launch} {D : va_G} {cid : Nat → ClassId} {X : CT} {Post : PT} (hX : OK l D cid m_G_request X Post) : SS l D cid m_G_request X 42 [o_aload 5, o_getf 2 4, o_iload 2, o_callV l D cid m_L_greatestNumber 0 1, o_iload 3] (t_cmp (fun x y => x ≤ y) (FR l D cid m_G_request X 58) (FR l D cid m_G_request X 55)) := by
  refine SS.cons (so_aload hX d_G_request_42) ?_
  refine SS.cons (so_getf (C := R_P) (T := T_P) hX d_G_request_44 in_P rfl (by decide) k_113) ?_
  refine SS.cons (so_iload_n hX d_G_request_47 rfl) ?_
  refine SS.cons (so_callV (M' := m_L_greatestNumber) (T := T_L) hX d_G_request_48 rfl k_209 k_206 k_207 k_208 k_47 pf_L_greatestNumber (by decide) (by decide +kernel) ⟨by decide, by decide⟩) ?_
  refine SS.cons (so_iload_n hX d_G_request_51 rfl) ?_
  exact st_icmp_le hX d_G_request_52 (by decide)
theorem b_G_request_55 {l : Launch} {D : va_G} {cid : Nat → ClassId} {X : CT} {Post : PT} (hX : OK l D cid m_G_request X Post) : SS l D cid m_G_request X 55 [o_push (.int (-3))] (t_iret Post) := by
  refine SS.cons (so_bipush hX d_G_request_55 (by decide)) ?_
  exact st_iret hX d_G_request_57 rfl
theorem b_G_request_58 {l : Launch} {D : va_G} {cid : Nat → ClassId} {X : CT} {Post : PT} (hX : OK l D cid m_G_request X Post) : SS l D cid m_G_request X 58 [o_aload 5, o_getf 2 4, o_iload 2, o_iload 3, o_callV l D cid m_L_find 0 2, o_astore 6, o_aload 6] (t_null (FR l D cid m_G_request X 84) (FR l D cid m_G_request X 75)) := by
  refine SS.cons (so_aload hX d_G_request_58) ?_
  refine SS.cons (so_getf (C := R_P) (T := T_P) hX d_G_request_60 in_P rfl (by decide) k_113) ?_
  refine SS.cons (so_iload_n hX d_G_request_63 rfl) ?_
  refine SS.cons (so_iload_n hX d_G_request_64 rfl) ?_
  refine SS.cons (so_callV (M' := m_L_find) (T := T_L) hX d_G_request_65 rfl k_216 k_213 k_214 k_215 k_47 pf_L_find (by decide) (by decide +kernel) ⟨by decide, by decide⟩) ?_
  refine SS.cons (so_astore hX d_G_request_68 (by decide)) ?_
  refine SS.cons (so_aload hX d_G_request_70) ?_
  exact st_ifnull hX d_G_request_72 (by decide)
theorem b_G_request_75 {l : Launch} {D : va_G} {cid : Nat → ClassId} {X : CT} {Post : PT} (hX : OK l D cid m_G_request X Post) : SS l D cid m_G_request X 75 [o_aload 0, o_aload 5, o_aload 6, o_callV l D cid m_G_repeatAnswer 3 2] (t_iret Post) := by
  refine SS.cons (so_aload_n hX d_G_request_75 rfl) ?_
  refine SS.cons (so_aload hX d_G_request_76) ?_
  refine SS.cons (so_aload hX d_G_request_78) ?_
  refine SS.cons (so_callV (M' := m_G_repeatAnswer) (T := T_G) hX d_G_request_80 rfl k_220 k_217 k_219 k_3 k_45 pf_G_repeatAnswer (by decide) (by decide +kernel) ⟨by decide, by decide⟩) ?_
  exact st_iret hX d_G_request_83 rfl
theorem b_G_request_84 {l : Launch} {D : va_G} {cid : Nat → ClassId} {X : CT} {Post : PT} (hX : OK l D cid m_G_request X Post) : SS l D cid m_G_request X 84 [o_aload 5, o_getf 2 4, o_getf 0 1, o_push (.int 24)] (t_cmp (fun x y => x < y) (FR l D cid m_G_request X 100) (FR l D cid m_G_request X 97)) := by
  refine SS.cons (so_aload hX d_G_request_84) ?_
  refine SS.cons (so_getf (C := R_P) (T := T_P) hX d_G_request_86 in_P rfl (by decide) k_113) ?_
  refine SS.cons (so_getf (C := R_L) (T := T_L) hX d_G_request_89 in_L rfl (by decide) k_76) ?_
  refine SS.cons (so_bipush hX d_G_request_92 (by decide)) ?_
  exact st_icmp_lt hX d_G_request_94 (by decide)
theorem b_G_request_97 {l : Launch} {D : va_G} {cid : Nat → ClassId} {X : CT} {Post : PT} (hX : OK l D cid m_G_request X Post) : SS l D cid m_G_request X 97 [o_push (.int (-4))] (t_iret Post) := by
  refine SS.cons (so_bipush hX d_G_request_97 (by decide)) ?_
  exact st_iret hX d_G_request_99 rfl
theorem b_G_request_100 {l : Launch} {D : va_G} {cid : Nat → ClassId} {X : CT} {Post : PT} (hX : OK l D cid m_G_request X Post) : SS l D cid m_G_request X 100 [o_aload 5, o_new 0 6 df_L, o_dup, o_aload 5, o_getf 2 4, o_iload 2, o_iload 3, o_iload 4, o_callI l D cid m_L_init2 4, o_put okR 2 4, o_aload 0, o_aload 5, o_push (.int 1), o_callV l D cid m_G_sendToAll 3 2, o_push (.int 0)] (t_iret Post) := by
  refine SS.cons (so_aload hX d_G_request_100) ?_
  refine SS.cons (so_new (C := R_L) (T := T_L) hX d_G_request_102 in_L ty_L k_225 k_69 k_47 rfl dv_L) ?_
  refine SS.cons (so_dup hX d_G_request_105) ?_
  refine SS.cons (so_aload hX d_G_request_106) ?_
  refine SS.cons (so_getf (C := R_P) (T := T_P) hX d_G_request_108 in_P rfl (by decide) k_113) ?_
  refine SS.cons (so_iload_n hX d_G_request_111 rfl) ?_
  refine SS.cons (so_iload_n hX d_G_request_112 rfl) ?_
  refine SS.cons (so_iload hX d_G_request_113) ?_
  refine SS.cons (so_callI (M' := m_L_init2) hX d_G_request_115 k_228 rfl k_226 k_227 k_47 rfl pf_L_init2 (by decide) (by decide +kernel) ⟨by decide, by decide⟩) ?_
  refine SS.cons (so_put (C := R_P) (T := T_P) (ok_O _) hX d_G_request_118 in_P ty_P nm_P rfl (by decide) k_113 rfl rfl) ?_
  refine SS.cons (so_aload_n hX d_G_request_121 rfl) ?_
  refine SS.cons (so_aload hX d_G_request_122) ?_
  refine SS.cons (so_iconst hX d_G_request_124 (by decide)) ?_
  refine SS.cons (so_callV (M' := m_G_sendToAll) (T := T_G) hX d_G_request_125 rfl k_232 k_229 k_231 k_5 k_45 pf_G_sendToAll (by decide) (by decide +kernel) ⟨by decide, by decide⟩) ?_
  refine SS.cons (so_iconst hX d_G_request_128 (by decide)) ?_
  exact st_iret hX d_G_request_129 rfl
abbrev m_G_findMessage : MT := (⟨"GroupLog", "findMessage", "(I)LGroupLog$Message;"⟩, prog_1_method_30_code, 3, (some (FieldType.object "GroupLog$Message")), { frames := 0, cells := 0, slots := 0, locals := 0 })
theorem pf_G_findMessage : plainFor m_G_findMessage.1 = true := by decide +kernel
theorem d_G_findMessage_0 : decode prog_1_method_30_code 0 = .ok (.iload_n 1, 1) := by decide +kernel
theorem d_G_findMessage_1 : decode prog_1_method_30_code 1 = .ok (.ifCond .lt 26, 3) := by decide +kernel
theorem d_G_findMessage_4 : decode prog_1_method_30_code 4 = .ok (.iload_n 1, 1) := by decide +kernel
theorem d_G_findMessage_5 : decode prog_1_method_30_code 5 = .ok (.aload_n 0, 1) := by decide +kernel
theorem d_G_findMessage_6 : decode prog_1_method_30_code 6 = .ok (.getfield 15, 3) := by decide +kernel
theorem d_G_findMessage_9 : decode prog_1_method_30_code 9 = .ok (.if_icmp .ge 18, 3) := by decide +kernel
theorem d_G_findMessage_12 : decode prog_1_method_30_code 12 = .ok (.aload_n 0, 1) := by decide +kernel
theorem d_G_findMessage_13 : decode prog_1_method_30_code 13 = .ok (.getfield 15, 3) := by decide +kernel
theorem d_G_findMessage_16 : decode prog_1_method_30_code 16 = .ok (.iload_n 1, 1) := by decide +kernel
theorem d_G_findMessage_17 : decode prog_1_method_30_code 17 = .ok (.isub, 1) := by decide +kernel
theorem d_G_findMessage_18 : decode prog_1_method_30_code 18 = .ok (.bipush 64, 2) := by decide +kernel
theorem d_G_findMessage_20 : decode prog_1_method_30_code 20 = .ok (.if_icmp .gt 7, 3) := by decide +kernel
theorem d_G_findMessage_23 : decode prog_1_method_30_code 23 = .ok (.iconst 1, 1) := by decide +kernel
theorem d_G_findMessage_24 : decode prog_1_method_30_code 24 = .ok (.goto 4, 3) := by decide +kernel
theorem d_G_findMessage_27 : decode prog_1_method_30_code 27 = .ok (.iconst 0, 1) := by decide +kernel
theorem d_G_findMessage_28 : decode prog_1_method_30_code 28 = .ok (.istore_n 2, 1) := by decide +kernel
theorem d_G_findMessage_29 : decode prog_1_method_30_code 29 = .ok (.iload_n 2, 1) := by decide +kernel
theorem d_G_findMessage_30 : decode prog_1_method_30_code 30 = .ok (.ifCond .eq 15, 3) := by decide +kernel
theorem d_G_findMessage_33 : decode prog_1_method_30_code 33 = .ok (.aload_n 0, 1) := by decide +kernel
theorem d_G_findMessage_34 : decode prog_1_method_30_code 34 = .ok (.getfield 11, 3) := by decide +kernel
theorem d_G_findMessage_37 : decode prog_1_method_30_code 37 = .ok (.iload_n 1, 1) := by decide +kernel
theorem d_G_findMessage_38 : decode prog_1_method_30_code 38 = .ok (.bipush 64, 2) := by decide +kernel
theorem d_G_findMessage_40 : decode prog_1_method_30_code 40 = .ok (.irem, 1) := by decide +kernel
theorem d_G_findMessage_41 : decode prog_1_method_30_code 41 = .ok (.aaload, 1) := by decide +kernel
theorem d_G_findMessage_42 : decode prog_1_method_30_code 42 = .ok (.goto 4, 3) := by decide +kernel
theorem d_G_findMessage_45 : decode prog_1_method_30_code 45 = .ok (.aconst_null, 1) := by decide +kernel
theorem d_G_findMessage_46 : decode prog_1_method_30_code 46 = .ok (.areturn, 1) := by decide +kernel
theorem b_G_findMessage_0 {l : Launch} {D : va_G} {cid : Nat → ClassId} {X : CT} {Post : PT} (hX : OK l D cid m_G_findMessage X Post) : SS l D cid m_G_findMessage X 0 [o_iload 1] (t_if (fun x => x < 0) (FR l D cid m_G_findMessage X 27) (FR l D cid m_G_findMessage X 4)) := by
  refine SS.cons (so_iload_n hX d_G_findMessage_0 rfl) ?_
  exact st_if_lt hX d_G_findMessage_1 (by decide)
theorem b_G_findMessage_4 {l : Launch} {D : va_G} {cid : Nat → ClassId} {X : CT} {Post : PT} (hX : OK l D cid m_G_findMessage X Post) : SS l D cid m_G_findMessage X 4 [o_iload 1, o_aload 0, o_getf 3 4] (t_cmp (fun x y => y ≤ x) (FR l D cid m_G_findMessage X 27) (FR l D cid m_G_findMessage X 12)) := by
  refine SS.cons (so_iload_n hX d_G_findMessage_4 rfl) ?_
  refine SS.cons (so_aload_n hX d_G_findMessage_5 rfl) ?_
  refine SS.cons (so_getf (C := R_G) (T := T_G) hX d_G_findMessage_6 in_G rfl (by decide) k_163) ?_
  exact st_icmp_ge hX d_G_findMessage_9 (by decide)
theorem b_G_findMessage_12 {l : Launch} {D : va_G} {cid : Nat → ClassId} {X : CT} {Post : PT} (hX : OK l D cid m_G_findMessage X Post) : SS l D cid m_G_findMessage X 12 [o_aload 0, o_getf 3 4, o_iload 1, o_bin (fun x y => x - y), o_push (.int 64)] (t_cmp (fun x y => y < x) (FR l D cid m_G_findMessage X 27) (FR l D cid m_G_findMessage X 23)) := by
  refine SS.cons (so_aload_n hX d_G_findMessage_12 rfl) ?_
  refine SS.cons (so_getf (C := R_G) (T := T_G) hX d_G_findMessage_13 in_G rfl (by decide) k_163) ?_
  refine SS.cons (so_iload_n hX d_G_findMessage_16 rfl) ?_
  refine SS.cons (so_isub hX d_G_findMessage_17) ?_
  refine SS.cons (so_bipush hX d_G_findMessage_18 (by decide)) ?_
  exact st_icmp_gt hX d_G_findMessage_20 (by decide)
theorem b_G_findMessage_23 {l : Launch} {D : va_G} {cid : Nat → ClassId} {X : CT} {Post : PT} (hX : OK l D cid m_G_findMessage X Post) : SS l D cid m_G_findMessage X 23 [o_push (.int 1)] (FR l D cid m_G_findMessage X 28) := by
  refine SS.cons (so_iconst hX d_G_findMessage_23 (by decide)) ?_
  exact so_goto hX d_G_findMessage_24 (by decide)
theorem b_G_findMessage_27 {l : Launch} {D : va_G} {cid : Nat → ClassId} {X : CT} {Post : PT} (hX : OK l D cid m_G_findMessage X Post) : SS l D cid m_G_findMessage X 27 [o_push (.int 0)] (FR l D cid m_G_findMessage X 28) := by
  refine SS.cons (so_iconst hX d_G_findMessage_27 (by decide)) ?_
  exact SS.fall
theorem b_G_findMessage_28 {l : Launch} {D : va_G} {cid : Nat → ClassId} {X : CT} {Post : PT} (hX : OK l D cid m_G_findMessage X Post) : SS l D cid m_G_findMessage X 28 [o_istore 2, o_iload 2] (t_if (fun x => x = 0) (FR l D cid m_G_findMessage X 45) (FR l D cid m_G_findMessage X 33)) := by
  refine SS.cons (so_istore_n hX d_G_findMessage_28 rfl (by decide)) ?_
  refine SS.cons (so_iload_n hX d_G_findMessage_29 rfl) ?_
  exact st_if_eq hX d_G_findMessage_30 (by decide)
theorem b_G_findMessage_33 {l : Launch} {D : va_G} {cid : Nat → ClassId} {X : CT} {Post : PT} (hX : OK l D cid m_G_findMessage X Post) : SS l D cid m_G_findMessage X 33 [o_aload 0, o_getf 3 3, o_iload 1, o_push (.int 64), o_binz (fun x y => x - x / y * y), o_aldq 2] (FR l D cid m_G_findMessage X 46) := by
  refine SS.cons (so_aload_n hX d_G_findMessage_33 rfl) ?_
  refine SS.cons (so_getf (C := R_G) (T := T_G) hX d_G_findMessage_34 in_G rfl (by decide) k_162) ?_
  refine SS.cons (so_iload_n hX d_G_findMessage_37 rfl) ?_
  refine SS.cons (so_bipush hX d_G_findMessage_38 (by decide)) ?_
  refine SS.cons (so_irem hX d_G_findMessage_40) ?_
  refine SS.cons (so_aldq hX d_G_findMessage_41 rfl) ?_
  exact so_goto hX d_G_findMessage_42 (by decide)
theorem b_G_findMessage_45 {l : Launch} {D : va_G} {cid : Nat → ClassId} {X : CT} {Post : PT} (hX : OK l D cid m_G_findMessage X Post) : SS l D cid m_G_findMessage X 45 [o_push .null] (FR l D cid m_G_findMessage X 46) := by
  refine SS.cons (so_null hX d_G_findMessage_45) ?_
  exact SS.fall
theorem b_G_findMessage_46 {l : Launch} {D : va_G} {cid : Nat → ClassId} {X : CT} {Post : PT} (hX : OK l D cid m_G_findMessage X Post) : SS l D cid m_G_findMessage X 46 [] (t_aret Post) := by
  exact st_aret hX d_G_findMessage_46 rfl
abbrev m_G_hears : MT := (⟨"GroupLog", "hears", "(LGroupLog$Replica;LGroupLog$Message;)Z"⟩, prog_1_method_34_code, 2, (some FieldType.boolean), { frames := 0, cells := 0, slots := 0, locals := 0 })
theorem pf_G_hears : plainFor m_G_hears.1 = true := by decide +kernel
theorem d_G_hears_0 : decode prog_1_method_34_code 0 = .ok (.aload_n 0, 1) := by decide +kernel
theorem d_G_hears_1 : decode prog_1_method_34_code 1 = .ok (.getfield 97, 3) := by decide +kernel
theorem d_G_hears_4 : decode prog_1_method_34_code 4 = .ok (.iconst 3, 1) := by decide +kernel
theorem d_G_hears_5 : decode prog_1_method_34_code 5 = .ok (.if_icmp .eq 37, 3) := by decide +kernel
theorem d_G_hears_8 : decode prog_1_method_34_code 8 = .ok (.aload_n 0, 1) := by decide +kernel
theorem d_G_hears_9 : decode prog_1_method_34_code 9 = .ok (.getfield 97, 3) := by decide +kernel
theorem d_G_hears_12 : decode prog_1_method_34_code 12 = .ok (.iconst 2, 1) := by decide +kernel
theorem d_G_hears_13 : decode prog_1_method_34_code 13 = .ok (.if_icmp .ne 7, 3) := by decide +kernel
theorem d_G_hears_16 : decode prog_1_method_34_code 16 = .ok (.iconst 1, 1) := by decide +kernel
theorem d_G_hears_17 : decode prog_1_method_34_code 17 = .ok (.goto 4, 3) := by decide +kernel
theorem d_G_hears_20 : decode prog_1_method_34_code 20 = .ok (.iconst 0, 1) := by decide +kernel
theorem d_G_hears_21 : decode prog_1_method_34_code 21 = .ok (.aload_n 1, 1) := by decide +kernel
theorem d_G_hears_22 : decode prog_1_method_34_code 22 = .ok (.getfield 148, 3) := by decide +kernel
theorem d_G_hears_25 : decode prog_1_method_34_code 25 = .ok (.bipush 8, 2) := by decide +kernel
theorem d_G_hears_27 : decode prog_1_method_34_code 27 = .ok (.if_icmp .ne 7, 3) := by decide +kernel
theorem d_G_hears_30 : decode prog_1_method_34_code 30 = .ok (.iconst 1, 1) := by decide +kernel
theorem d_G_hears_31 : decode prog_1_method_34_code 31 = .ok (.goto 4, 3) := by decide +kernel
theorem d_G_hears_34 : decode prog_1_method_34_code 34 = .ok (.iconst 0, 1) := by decide +kernel
theorem d_G_hears_35 : decode prog_1_method_34_code 35 = .ok (.if_icmp .ne 7, 3) := by decide +kernel
theorem d_G_hears_38 : decode prog_1_method_34_code 38 = .ok (.iconst 1, 1) := by decide +kernel
theorem d_G_hears_39 : decode prog_1_method_34_code 39 = .ok (.goto 4, 3) := by decide +kernel
theorem d_G_hears_42 : decode prog_1_method_34_code 42 = .ok (.iconst 0, 1) := by decide +kernel
theorem d_G_hears_43 : decode prog_1_method_34_code 43 = .ok (.ireturn, 1) := by decide +kernel
theorem b_G_hears_0 {l : Launch} {D : va_G} {cid : Nat → ClassId} {X : CT} {Post : PT} (hX : OK l D cid m_G_hears X Post) : SS l D cid m_G_hears X 0 [o_aload 0, o_getf 2 1, o_push (.int 3)] (t_cmp (fun x y => x = y) (FR l D cid m_G_hears X 42) (FR l D cid m_G_hears X 8)) := by
  refine SS.cons (so_aload_n hX d_G_hears_0 rfl) ?_
  refine SS.cons (so_getf (C := R_P) (T := T_P) hX d_G_hears_1 in_P rfl (by decide) k_105) ?_
  refine SS.cons (so_iconst hX d_G_hears_4 (by decide)) ?_
  exact st_icmp_eq hX d_G_hears_5 (by decide)
theorem b_G_hears_8 {l : Launch} {D : va_G} {cid : Nat → ClassId} {X : CT} {Post : PT} (hX : OK l D cid m_G_hears X Post) : SS l D cid m_G_hears X 8 [o_aload 0, o_getf 2 1, o_push (.int 2)] (t_cmp (fun x y => ¬ x = y) (FR l D cid m_G_hears X 20) (FR l D cid m_G_hears X 16)) := by
  refine SS.cons (so_aload_n hX d_G_hears_8 rfl) ?_
  refine SS.cons (so_getf (C := R_P) (T := T_P) hX d_G_hears_9 in_P rfl (by decide) k_105) ?_
  refine SS.cons (so_iconst hX d_G_hears_12 (by decide)) ?_
  exact st_icmp_ne hX d_G_hears_13 (by decide)
theorem b_G_hears_16 {l : Launch} {D : va_G} {cid : Nat → ClassId} {X : CT} {Post : PT} (hX : OK l D cid m_G_hears X Post) : SS l D cid m_G_hears X 16 [o_push (.int 1)] (FR l D cid m_G_hears X 21) := by
  refine SS.cons (so_iconst hX d_G_hears_16 (by decide)) ?_
  exact so_goto hX d_G_hears_17 (by decide)
theorem b_G_hears_20 {l : Launch} {D : va_G} {cid : Nat → ClassId} {X : CT} {Post : PT} (hX : OK l D cid m_G_hears X Post) : SS l D cid m_G_hears X 20 [o_push (.int 0)] (FR l D cid m_G_hears X 21) := by
  refine SS.cons (so_iconst hX d_G_hears_20 (by decide)) ?_
  exact SS.fall
theorem b_G_hears_21 {l : Launch} {D : va_G} {cid : Nat → ClassId} {X : CT} {Post : PT} (hX : OK l D cid m_G_hears X Post) : SS l D cid m_G_hears X 21 [o_aload 1, o_getf 1 0, o_push (.int 8)] (t_cmp (fun x y => ¬ x = y) (FR l D cid m_G_hears X 34) (FR l D cid m_G_hears X 30)) := by
  refine SS.cons (so_aload_n hX d_G_hears_21 rfl) ?_
  refine SS.cons (so_getf (C := R_E) (T := T_E) hX d_G_hears_22 in_E rfl (by decide) k_243) ?_
  refine SS.cons (so_bipush hX d_G_hears_25 (by decide)) ?_
  exact st_icmp_ne hX d_G_hears_27 (by decide)
theorem b_G_hears_30 {l : Launch} {D : va_G} {cid : Nat → ClassId} {X : CT} {Post : PT} (hX : OK l D cid m_G_hears X Post) : SS l D cid m_G_hears X 30 [o_push (.int 1)] (FR l D cid m_G_hears X 35) := by
  refine SS.cons (so_iconst hX d_G_hears_30 (by decide)) ?_
  exact so_goto hX d_G_hears_31 (by decide)
theorem b_G_hears_34 {l : Launch} {D : va_G} {cid : Nat → ClassId} {X : CT} {Post : PT} (hX : OK l D cid m_G_hears X Post) : SS l D cid m_G_hears X 34 [o_push (.int 0)] (FR l D cid m_G_hears X 35) := by
  refine SS.cons (so_iconst hX d_G_hears_34 (by decide)) ?_
  exact SS.fall
theorem b_G_hears_35 {l : Launch} {D : va_G} {cid : Nat → ClassId} {X : CT} {Post : PT} (hX : OK l D cid m_G_hears X Post) : SS l D cid m_G_hears X 35 [] (t_cmp (fun x y => ¬ x = y) (FR l D cid m_G_hears X 42) (FR l D cid m_G_hears X 38)) := by
  exact st_icmp_ne hX d_G_hears_35 (by decide)
theorem b_G_hears_38 {l : Launch} {D : va_G} {cid : Nat → ClassId} {X : CT} {Post : PT} (hX : OK l D cid m_G_hears X Post) : SS l D cid m_G_hears X 38 [o_push (.int 1)] (FR l D cid m_G_hears X 43) := by
  refine SS.cons (so_iconst hX d_G_hears_38 (by decide)) ?_
  exact so_goto hX d_G_hears_39 (by decide)
theorem b_G_hears_42 {l : Launch} {D : va_G} {cid : Nat → ClassId} {X : CT} {Post : PT} (hX : OK l D cid m_G_hears X Post) : SS l D cid m_G_hears X 42 [o_push (.int 0)] (FR l D cid m_G_hears X 43) := by
  refine SS.cons (so_iconst hX d_G_hears_42 (by decide)) ?_
  exact SS.fall
theorem b_G_hears_43 {l : Launch} {D : va_G} {cid : Nat → ClassId} {X : CT} {Post : PT} (hX : OK l D cid m_G_hears X Post) : SS l D cid m_G_hears X 43 [] (t_zret Post) := by
  exact st_zret hX d_G_hears_43 rfl
abbrev m_G_isOutdated : MT := (⟨"GroupLog", "isOutdated", "(LGroupLog$Replica;LGroupLog$Message;)Z"⟩, prog_1_method_35_code, 2, (some FieldType.boolean), { frames := 0, cells := 0, slots := 0, locals := 0 })
theorem pf_G_isOutdated : plainFor m_G_isOutdated.1 = true := by decide +kernel
theorem d_G_isOutdated_0 : decode prog_1_method_35_code 0 = .ok (.aload_n 1, 1) := by decide +kernel
theorem d_G_isOutdated_1 : decode prog_1_method_35_code 1 = .ok (.getfield 181, 3) := by decide +kernel
theorem d_G_isOutdated_4 : decode prog_1_method_35_code 4 = .ok (.aload_n 1, 1) := by decide +kernel
theorem d_G_isOutdated_5 : decode prog_1_method_35_code 5 = .ok (.getfield 151, 3) := by decide +kernel
theorem d_G_isOutdated_8 : decode prog_1_method_35_code 8 = .ok (.iaload, 1) := by decide +kernel
theorem d_G_isOutdated_9 : decode prog_1_method_35_code 9 = .ok (.aload_n 0, 1) := by decide +kernel
theorem d_G_isOutdated_10 : decode prog_1_method_35_code 10 = .ok (.getfield 119, 3) := by decide +kernel
theorem d_G_isOutdated_13 : decode prog_1_method_35_code 13 = .ok (.aload_n 1, 1) := by decide +kernel
theorem d_G_isOutdated_14 : decode prog_1_method_35_code 14 = .ok (.getfield 151, 3) := by decide +kernel
theorem d_G_isOutdated_17 : decode prog_1_method_35_code 17 = .ok (.iaload, 1) := by decide +kernel
theorem d_G_isOutdated_18 : decode prog_1_method_35_code 18 = .ok (.if_icmp .lt 33, 3) := by decide +kernel
theorem d_G_isOutdated_21 : decode prog_1_method_35_code 21 = .ok (.aload_n 1, 1) := by decide +kernel
theorem d_G_isOutdated_22 : decode prog_1_method_35_code 22 = .ok (.getfield 148, 3) := by decide +kernel
theorem d_G_isOutdated_25 : decode prog_1_method_35_code 25 = .ok (.bipush 8, 2) := by decide +kernel
theorem d_G_isOutdated_27 : decode prog_1_method_35_code 27 = .ok (.if_icmp .ne 28, 3) := by decide +kernel
theorem d_G_isOutdated_30 : decode prog_1_method_35_code 30 = .ok (.aload_n 1, 1) := by decide +kernel
theorem d_G_isOutdated_31 : decode prog_1_method_35_code 31 = .ok (.getfield 181, 3) := by decide +kernel
theorem d_G_isOutdated_34 : decode prog_1_method_35_code 34 = .ok (.aload_n 0, 1) := by decide +kernel
theorem d_G_isOutdated_35 : decode prog_1_method_35_code 35 = .ok (.getfield 122, 3) := by decide +kernel
theorem d_G_isOutdated_38 : decode prog_1_method_35_code 38 = .ok (.iaload, 1) := by decide +kernel
theorem d_G_isOutdated_39 : decode prog_1_method_35_code 39 = .ok (.aload_n 0, 1) := by decide +kernel
theorem d_G_isOutdated_40 : decode prog_1_method_35_code 40 = .ok (.getfield 119, 3) := by decide +kernel
theorem d_G_isOutdated_43 : decode prog_1_method_35_code 43 = .ok (.aload_n 0, 1) := by decide +kernel
theorem d_G_isOutdated_44 : decode prog_1_method_35_code 44 = .ok (.getfield 122, 3) := by decide +kernel
theorem d_G_isOutdated_47 : decode prog_1_method_35_code 47 = .ok (.iaload, 1) := by decide +kernel
theorem d_G_isOutdated_48 : decode prog_1_method_35_code 48 = .ok (.if_icmp .eq 7, 3) := by decide +kernel
theorem d_G_isOutdated_51 : decode prog_1_method_35_code 51 = .ok (.iconst 1, 1) := by decide +kernel
theorem d_G_isOutdated_52 : decode prog_1_method_35_code 52 = .ok (.goto 4, 3) := by decide +kernel
theorem d_G_isOutdated_55 : decode prog_1_method_35_code 55 = .ok (.iconst 0, 1) := by decide +kernel
theorem d_G_isOutdated_56 : decode prog_1_method_35_code 56 = .ok (.ireturn, 1) := by decide +kernel
theorem b_G_isOutdated_0 {l : Launch} {D : va_G} {cid : Nat → ClassId} {X : CT} {Post : PT} (hX : OK l D cid m_G_isOutdated X Post) : SS l D cid m_G_isOutdated X 0 [o_aload 1, o_getf 1 5, o_aload 1, o_getf 1 1, o_ald 0, o_aload 0, o_getf 2 6, o_aload 1, o_getf 1 1, o_ald 0] (t_cmp (fun x y => x < y) (FR l D cid m_G_isOutdated X 51) (FR l D cid m_G_isOutdated X 21)) := by
  refine SS.cons (so_aload_n hX d_G_isOutdated_0 rfl) ?_
  refine SS.cons (so_getf (C := R_E) (T := T_E) hX d_G_isOutdated_1 in_E rfl (by decide) k_255) ?_
  refine SS.cons (so_aload_n hX d_G_isOutdated_4 rfl) ?_
  refine SS.cons (so_getf (C := R_E) (T := T_E) hX d_G_isOutdated_5 in_E rfl (by decide) k_245) ?_
  refine SS.cons (so_iald hX d_G_isOutdated_8) ?_
  refine SS.cons (so_aload_n hX d_G_isOutdated_9 rfl) ?_
  refine SS.cons (so_getf (C := R_P) (T := T_P) hX d_G_isOutdated_10 in_P rfl (by decide) k_119) ?_
  refine SS.cons (so_aload_n hX d_G_isOutdated_13 rfl) ?_
  refine SS.cons (so_getf (C := R_E) (T := T_E) hX d_G_isOutdated_14 in_E rfl (by decide) k_245) ?_
  refine SS.cons (so_iald hX d_G_isOutdated_17) ?_
  exact st_icmp_lt hX d_G_isOutdated_18 (by decide)
theorem b_G_isOutdated_21 {l : Launch} {D : va_G} {cid : Nat → ClassId} {X : CT} {Post : PT} (hX : OK l D cid m_G_isOutdated X Post) : SS l D cid m_G_isOutdated X 21 [o_aload 1, o_getf 1 0, o_push (.int 8)] (t_cmp (fun x y => ¬ x = y) (FR l D cid m_G_isOutdated X 55) (FR l D cid m_G_isOutdated X 30)) := by
  refine SS.cons (so_aload_n hX d_G_isOutdated_21 rfl) ?_
  refine SS.cons (so_getf (C := R_E) (T := T_E) hX d_G_isOutdated_22 in_E rfl (by decide) k_243) ?_
  refine SS.cons (so_bipush hX d_G_isOutdated_25 (by decide)) ?_
  exact st_icmp_ne hX d_G_isOutdated_27 (by decide)
theorem b_G_isOutdated_30 {l : Launch} {D : va_G} {cid : Nat → ClassId} {X : CT} {Post : PT} (hX : OK l D cid m_G_isOutdated X Post) : SS l D cid m_G_isOutdated X 30 [o_aload 1, o_getf 1 5, o_aload 0, o_getf 2 0, o_ald 0, o_aload 0, o_getf 2 6, o_aload 0, o_getf 2 0, o_ald 0] (t_cmp (fun x y => x = y) (FR l D cid m_G_isOutdated X 55) (FR l D cid m_G_isOutdated X 51)) := by
  refine SS.cons (so_aload_n hX d_G_isOutdated_30 rfl) ?_
  refine SS.cons (so_getf (C := R_E) (T := T_E) hX d_G_isOutdated_31 in_E rfl (by decide) k_255) ?_
  refine SS.cons (so_aload_n hX d_G_isOutdated_34 rfl) ?_
  refine SS.cons (so_getf (C := R_P) (T := T_P) hX d_G_isOutdated_35 in_P rfl (by decide) k_103) ?_
  refine SS.cons (so_iald hX d_G_isOutdated_38) ?_
  refine SS.cons (so_aload_n hX d_G_isOutdated_39 rfl) ?_
  refine SS.cons (so_getf (C := R_P) (T := T_P) hX d_G_isOutdated_40 in_P rfl (by decide) k_119) ?_
  refine SS.cons (so_aload_n hX d_G_isOutdated_43 rfl) ?_
  refine SS.cons (so_getf (C := R_P) (T := T_P) hX d_G_isOutdated_44 in_P rfl (by decide) k_103) ?_
  refine SS.cons (so_iald hX d_G_isOutdated_47) ?_
  exact st_icmp_eq hX d_G_isOutdated_48 (by decide)
theorem b_G_isOutdated_51 {l : Launch} {D : va_G} {cid : Nat → ClassId} {X : CT} {Post : PT} (hX : OK l D cid m_G_isOutdated X Post) : SS l D cid m_G_isOutdated X 51 [o_push (.int 1)] (FR l D cid m_G_isOutdated X 56) := by
  refine SS.cons (so_iconst hX d_G_isOutdated_51 (by decide)) ?_
  exact so_goto hX d_G_isOutdated_52 (by decide)
theorem b_G_isOutdated_55 {l : Launch} {D : va_G} {cid : Nat → ClassId} {X : CT} {Post : PT} (hX : OK l D cid m_G_isOutdated X Post) : SS l D cid m_G_isOutdated X 55 [o_push (.int 0)] (FR l D cid m_G_isOutdated X 56) := by
  refine SS.cons (so_iconst hX d_G_isOutdated_55 (by decide)) ?_
  exact SS.fall
theorem b_G_isOutdated_56 {l : Launch} {D : va_G} {cid : Nat → ClassId} {X : CT} {Post : PT} (hX : OK l D cid m_G_isOutdated X Post) : SS l D cid m_G_isOutdated X 56 [] (t_zret Post) := by
  exact st_zret hX d_G_isOutdated_56 rfl
abbrev m_G_takePrepare : MT := (⟨"GroupLog", "takePrepare", "(LGroupLog$Replica;LGroupLog$Message;)V"⟩, prog_1_method_37_code, 4, (none : Option FieldType), { frames := 3, cells := 3, slots := 22, locals := 66 })
theorem pf_G_takePrepare : plainFor m_G_takePrepare.1 = true := by decide +kernel
theorem d_G_takePrepare_0 : decode prog_1_method_37_code 0 = .ok (.aload_n 2, 1) := by decide +kernel
theorem d_G_takePrepare_1 : decode prog_1_method_37_code 1 = .ok (.getfield 157, 3) := by decide +kernel
theorem d_G_takePrepare_4 : decode prog_1_method_37_code 4 = .ok (.aload_n 1, 1) := by decide +kernel
theorem d_G_takePrepare_5 : decode prog_1_method_37_code 5 = .ok (.getfield 100, 3) := by decide +kernel
theorem d_G_takePrepare_8 : decode prog_1_method_37_code 8 = .ok (.if_icmp .ge 4, 3) := by decide +kernel
theorem d_G_takePrepare_11 : decode prog_1_method_37_code 11 = .ok (.return_, 1) := by decide +kernel
theorem d_G_takePrepare_12 : decode prog_1_method_37_code 12 = .ok (.aload_n 2, 1) := by decide +kernel
theorem d_G_takePrepare_13 : decode prog_1_method_37_code 13 = .ok (.getfield 157, 3) := by decide +kernel
theorem d_G_takePrepare_16 : decode prog_1_method_37_code 16 = .ok (.aload_n 1, 1) := by decide +kernel
theorem d_G_takePrepare_17 : decode prog_1_method_37_code 17 = .ok (.getfield 100, 3) := by decide +kernel
theorem d_G_takePrepare_20 : decode prog_1_method_37_code 20 = .ok (.if_icmp .ne 14, 3) := by decide +kernel
theorem d_G_takePrepare_23 : decode prog_1_method_37_code 23 = .ok (.aload_n 1, 1) := by decide +kernel
theorem d_G_takePrepare_24 : decode prog_1_method_37_code 24 = .ok (.getfield 97, 3) := by decide +kernel
theorem d_G_takePrepare_27 : decode prog_1_method_37_code 27 = .ok (.ifCond .ne 7, 3) := by decide +kernel
theorem d_G_takePrepare_30 : decode prog_1_method_37_code 30 = .ok (.iconst 1, 1) := by decide +kernel
theorem d_G_takePrepare_31 : decode prog_1_method_37_code 31 = .ok (.goto 4, 3) := by decide +kernel
theorem d_G_takePrepare_34 : decode prog_1_method_37_code 34 = .ok (.iconst 0, 1) := by decide +kernel
theorem d_G_takePrepare_35 : decode prog_1_method_37_code 35 = .ok (.istore_n 3, 1) := by decide +kernel
theorem d_G_takePrepare_36 : decode prog_1_method_37_code 36 = .ok (.iload_n 3, 1) := by decide +kernel
theorem d_G_takePrepare_37 : decode prog_1_method_37_code 37 = .ok (.ifCond .eq 22, 3) := by decide +kernel
theorem d_G_takePrepare_40 : decode prog_1_method_37_code 40 = .ok (.aload_n 2, 1) := by decide +kernel
theorem d_G_takePrepare_41 : decode prog_1_method_37_code 41 = .ok (.getfield 215, 3) := by decide +kernel
theorem d_G_takePrepare_44 : decode prog_1_method_37_code 44 = .ok (.getfield 73, 3) := by decide +kernel
theorem d_G_takePrepare_47 : decode prog_1_method_37_code 47 = .ok (.aload_n 1, 1) := by decide +kernel
theorem d_G_takePrepare_48 : decode prog_1_method_37_code 48 = .ok (.getfield 55, 3) := by decide +kernel
theorem d_G_takePrepare_51 : decode prog_1_method_37_code 51 = .ok (.getfield 73, 3) := by decide +kernel
theorem d_G_takePrepare_54 : decode prog_1_method_37_code 54 = .ok (.iconst 1, 1) := by decide +kernel
theorem d_G_takePrepare_55 : decode prog_1_method_37_code 55 = .ok (.iadd, 1) := by decide +kernel
theorem d_G_takePrepare_56 : decode prog_1_method_37_code 56 = .ok (.if_icmp .le 14, 3) := by decide +kernel
theorem d_G_takePrepare_59 : decode prog_1_method_37_code 59 = .ok (.aload_n 0, 1) := by decide +kernel
theorem d_G_takePrepare_60 : decode prog_1_method_37_code 60 = .ok (.aload_n 1, 1) := by decide +kernel
theorem d_G_takePrepare_61 : decode prog_1_method_37_code 61 = .ok (.iconst 3, 1) := by decide +kernel
theorem d_G_takePrepare_62 : decode prog_1_method_37_code 62 = .ok (.aload_n 2, 1) := by decide +kernel
theorem d_G_takePrepare_63 : decode prog_1_method_37_code 63 = .ok (.getfield 151, 3) := by decide +kernel
theorem d_G_takePrepare_66 : decode prog_1_method_37_code 66 = .ok (.invokevirtual 171, 3) := by decide +kernel
theorem d_G_takePrepare_69 : decode prog_1_method_37_code 69 = .ok (.return_, 1) := by decide +kernel
theorem d_G_takePrepare_70 : decode prog_1_method_37_code 70 = .ok (.aload_n 2, 1) := by decide +kernel
theorem d_G_takePrepare_71 : decode prog_1_method_37_code 71 = .ok (.getfield 215, 3) := by decide +kernel
theorem d_G_takePrepare_74 : decode prog_1_method_37_code 74 = .ok (.getfield 73, 3) := by decide +kernel
theorem d_G_takePrepare_77 : decode prog_1_method_37_code 77 = .ok (.aload_n 1, 1) := by decide +kernel
theorem d_G_takePrepare_78 : decode prog_1_method_37_code 78 = .ok (.getfield 55, 3) := by decide +kernel
theorem d_G_takePrepare_81 : decode prog_1_method_37_code 81 = .ok (.getfield 73, 3) := by decide +kernel
theorem d_G_takePrepare_84 : decode prog_1_method_37_code 84 = .ok (.iconst 1, 1) := by decide +kernel
theorem d_G_takePrepare_85 : decode prog_1_method_37_code 85 = .ok (.iadd, 1) := by decide +kernel
theorem d_G_takePrepare_86 : decode prog_1_method_37_code 86 = .ok (.if_icmp .ne 39, 3) := by decide +kernel
theorem d_G_takePrepare_89 : decode prog_1_method_37_code 89 = .ok (.aload_n 1, 1) := by decide +kernel
theorem d_G_takePrepare_90 : decode prog_1_method_37_code 90 = .ok (.new 60, 3) := by decide +kernel
theorem d_G_takePrepare_93 : decode prog_1_method_37_code 93 = .ok (.dup, 1) := by decide +kernel
theorem d_G_takePrepare_94 : decode prog_1_method_37_code 94 = .ok (.aload_n 1, 1) := by decide +kernel
theorem d_G_takePrepare_95 : decode prog_1_method_37_code 95 = .ok (.getfield 55, 3) := by decide +kernel
theorem d_G_takePrepare_98 : decode prog_1_method_37_code 98 = .ok (.aload_n 2, 1) := by decide +kernel
theorem d_G_takePrepare_99 : decode prog_1_method_37_code 99 = .ok (.getfield 215, 3) := by decide +kernel
theorem d_G_takePrepare_102 : decode prog_1_method_37_code 102 = .ok (.getfield 142, 3) := by decide +kernel
theorem d_G_takePrepare_105 : decode prog_1_method_37_code 105 = .ok (.aload_n 2, 1) := by decide +kernel
theorem d_G_takePrepare_106 : decode prog_1_method_37_code 106 = .ok (.getfield 215, 3) := by decide +kernel
theorem d_G_takePrepare_109 : decode prog_1_method_37_code 109 = .ok (.getfield 139, 3) := by decide +kernel
theorem d_G_takePrepare_112 : decode prog_1_method_37_code 112 = .ok (.aload_n 2, 1) := by decide +kernel
theorem d_G_takePrepare_113 : decode prog_1_method_37_code 113 = .ok (.getfield 215, 3) := by decide +kernel
theorem d_G_takePrepare_116 : decode prog_1_method_37_code 116 = .ok (.getfield 136, 3) := by decide +kernel
theorem d_G_takePrepare_119 : decode prog_1_method_37_code 119 = .ok (.invokespecial 76, 3) := by decide +kernel
theorem d_G_takePrepare_122 : decode prog_1_method_37_code 122 = .ok (.putfield 55, 3) := by decide +kernel
theorem d_G_takePrepare_125 : decode prog_1_method_37_code 125 = .ok (.aload_n 1, 1) := by decide +kernel
theorem d_G_takePrepare_126 : decode prog_1_method_37_code 126 = .ok (.aload_n 1, 1) := by decide +kernel
theorem d_G_takePrepare_127 : decode prog_1_method_37_code 127 = .ok (.getfield 125, 3) := by decide +kernel
theorem d_G_takePrepare_130 : decode prog_1_method_37_code 130 = .ok (.aload_n 2, 1) := by decide +kernel
theorem d_G_takePrepare_131 : decode prog_1_method_37_code 131 = .ok (.getfield 216, 3) := by decide +kernel
theorem d_G_takePrepare_134 : decode prog_1_method_37_code 134 = .ok (.aload_n 1, 1) := by decide +kernel
theorem d_G_takePrepare_135 : decode prog_1_method_37_code 135 = .ok (.getfield 55, 3) := by decide +kernel
theorem d_G_takePrepare_138 : decode prog_1_method_37_code 138 = .ok (.getfield 73, 3) := by decide +kernel
theorem d_G_takePrepare_141 : decode prog_1_method_37_code 141 = .ok (.invokestatic 217, 3) := by decide +kernel
theorem d_G_takePrepare_144 : decode prog_1_method_37_code 144 = .ok (.invokestatic 91, 3) := by decide +kernel
theorem d_G_takePrepare_147 : decode prog_1_method_37_code 147 = .ok (.putfield 125, 3) := by decide +kernel
theorem d_G_takePrepare_150 : decode prog_1_method_37_code 150 = .ok (.aload_n 0, 1) := by decide +kernel
theorem d_G_takePrepare_151 : decode prog_1_method_37_code 151 = .ok (.aload_n 1, 1) := by decide +kernel
theorem d_G_takePrepare_152 : decode prog_1_method_37_code 152 = .ok (.iconst 2, 1) := by decide +kernel
theorem d_G_takePrepare_153 : decode prog_1_method_37_code 153 = .ok (.aload_n 2, 1) := by decide +kernel
theorem d_G_takePrepare_154 : decode prog_1_method_37_code 154 = .ok (.getfield 151, 3) := by decide +kernel
theorem d_G_takePrepare_157 : decode prog_1_method_37_code 157 = .ok (.invokevirtual 171, 3) := by decide +kernel
theorem d_G_takePrepare_160 : decode prog_1_method_37_code 160 = .ok (.return_, 1) := by decide +kernel
theorem b_G_takePrepare_0 {l : Launch} {D : va_G} {cid : Nat → ClassId} {X : CT} {Post : PT} (hX : OK l D cid m_G_takePrepare X Post) : SS l D cid m_G_takePrepare X 0 [o_aload 2, o_getf 1 3, o_aload 1, o_getf 2 2] (t_cmp (fun x y => y ≤ x) (FR l D cid m_G_takePrepare X 12) (FR l D cid m_G_takePrepare X 11)) := by
  refine SS.cons (so_aload_n hX d_G_takePrepare_0 rfl) ?_
  refine SS.cons (so_getf (C := R_E) (T := T_E) hX d_G_takePrepare_1 in_E rfl (by decide) k_250) ?_
  refine SS.cons (so_aload_n hX d_G_takePrepare_4 rfl) ?_
  refine SS.cons (so_getf (C := R_P) (T := T_P) hX d_G_takePrepare_5 in_P rfl (by decide) k_108) ?_
  exact st_icmp_ge hX d_G_takePrepare_8 (by decide)
theorem b_G_takePrepare_11 {l : Launch} {D : va_G} {cid : Nat → ClassId} {X : CT} {Post : PT} (hX : OK l D cid m_G_takePrepare X Post) : SS l D cid m_G_takePrepare X 11 [] (t_ret Post) := by
  exact st_ret hX d_G_takePrepare_11 rfl
theorem b_G_takePrepare_12 {l : Launch} {D : va_G} {cid : Nat → ClassId} {X : CT} {Post : PT} (hX : OK l D cid m_G_takePrepare X Post) : SS l D cid m_G_takePrepare X 12 [o_aload 2, o_getf 1 3, o_aload 1, o_getf 2 2] (t_cmp (fun x y => ¬ x = y) (FR l D cid m_G_takePrepare X 34) (FR l D cid m_G_takePrepare X 23)) := by
  refine SS.cons (so_aload_n hX d_G_takePrepare_12 rfl) ?_
  refine SS.cons (so_getf (C := R_E) (T := T_E) hX d_G_takePrepare_13 in_E rfl (by decide) k_250) ?_
  refine SS.cons (so_aload_n hX d_G_takePrepare_16 rfl) ?_
  refine SS.cons (so_getf (C := R_P) (T := T_P) hX d_G_takePrepare_17 in_P rfl (by decide) k_108) ?_
  exact st_icmp_ne hX d_G_takePrepare_20 (by decide)
theorem b_G_takePrepare_23 {l : Launch} {D : va_G} {cid : Nat → ClassId} {X : CT} {Post : PT} (hX : OK l D cid m_G_takePrepare X Post) : SS l D cid m_G_takePrepare X 23 [o_aload 1, o_getf 2 1] (t_if (fun x => ¬ x = 0) (FR l D cid m_G_takePrepare X 34) (FR l D cid m_G_takePrepare X 30)) := by
  refine SS.cons (so_aload_n hX d_G_takePrepare_23 rfl) ?_
  refine SS.cons (so_getf (C := R_P) (T := T_P) hX d_G_takePrepare_24 in_P rfl (by decide) k_105) ?_
  exact st_if_ne hX d_G_takePrepare_27 (by decide)
theorem b_G_takePrepare_30 {l : Launch} {D : va_G} {cid : Nat → ClassId} {X : CT} {Post : PT} (hX : OK l D cid m_G_takePrepare X Post) : SS l D cid m_G_takePrepare X 30 [o_push (.int 1)] (FR l D cid m_G_takePrepare X 35) := by
  refine SS.cons (so_iconst hX d_G_takePrepare_30 (by decide)) ?_
  exact so_goto hX d_G_takePrepare_31 (by decide)
theorem b_G_takePrepare_34 {l : Launch} {D : va_G} {cid : Nat → ClassId} {X : CT} {Post : PT} (hX : OK l D cid m_G_takePrepare X Post) : SS l D cid m_G_takePrepare X 34 [o_push (.int 0)] (FR l D cid m_G_takePrepare X 35) := by
  refine SS.cons (so_iconst hX d_G_takePrepare_34 (by decide)) ?_
  exact SS.fall
theorem b_G_takePrepare_35 {l : Launch} {D : va_G} {cid : Nat → ClassId} {X : CT} {Post : PT} (hX : OK l D cid m_G_takePrepare X Post) : SS l D cid m_G_takePrepare X 35 [o_istore 3, o_iload 3] (t_if (fun x => x = 0) (FR l D cid m_G_takePrepare X 59) (FR l D cid m_G_takePrepare X 40)) := by
  refine SS.cons (so_istore_n hX d_G_takePrepare_35 rfl (by decide)) ?_
  refine SS.cons (so_iload_n hX d_G_takePrepare_36 rfl) ?_
  exact st_if_eq hX d_G_takePrepare_37 (by decide)
theorem b_G_takePrepare_40 {l : Launch} {D : va_G} {cid : Nat → ClassId} {X : CT} {Post : PT} (hX : OK l D cid m_G_takePrepare X Post) : SS l D cid m_G_takePrepare X 40 [o_aload 2, o_getf 1 6, o_getf 0 1, o_aload 1, o_getf 2 4, o_getf 0 1, o_push (.int 1), o_bin (fun x y => x + y)] (t_cmp (fun x y => x ≤ y) (FR l D cid m_G_takePrepare X 70) (FR l D cid m_G_takePrepare X 59)) := by
  refine SS.cons (so_aload_n hX d_G_takePrepare_40 rfl) ?_
  refine SS.cons (so_getf (C := R_E) (T := T_E) hX d_G_takePrepare_41 in_E rfl (by decide) k_258) ?_
  refine SS.cons (so_getf (C := R_L) (T := T_L) hX d_G_takePrepare_44 in_L rfl (by decide) k_76) ?_
  refine SS.cons (so_aload_n hX d_G_takePrepare_47 rfl) ?_
  refine SS.cons (so_getf (C := R_P) (T := T_P) hX d_G_takePrepare_48 in_P rfl (by decide) k_113) ?_
  refine SS.cons (so_getf (C := R_L) (T := T_L) hX d_G_takePrepare_51 in_L rfl (by decide) k_76) ?_
  refine SS.cons (so_iconst hX d_G_takePrepare_54 (by decide)) ?_
  refine SS.cons (so_iadd hX d_G_takePrepare_55) ?_
  exact st_icmp_le hX d_G_takePrepare_56 (by decide)
theorem b_G_takePrepare_59 {l : Launch} {D : va_G} {cid : Nat → ClassId} {X : CT} {Post : PT} (hX : OK l D cid m_G_takePrepare X Post) : SS l D cid m_G_takePrepare X 59 [o_aload 0, o_aload 1, o_push (.int 3), o_aload 2, o_getf 1 1, o_callV l D cid m_G_send 3 3] (t_ret Post) := by
  refine SS.cons (so_aload_n hX d_G_takePrepare_59 rfl) ?_
  refine SS.cons (so_aload_n hX d_G_takePrepare_60 rfl) ?_
  refine SS.cons (so_iconst hX d_G_takePrepare_61 (by decide)) ?_
  refine SS.cons (so_aload_n hX d_G_takePrepare_62 rfl) ?_
  refine SS.cons (so_getf (C := R_E) (T := T_E) hX d_G_takePrepare_63 in_E rfl (by decide) k_245) ?_
  refine SS.cons (so_callV (M' := m_G_send) (T := T_G) hX d_G_takePrepare_66 rfl k_236 k_233 k_235 k_6 k_45 pf_G_send (by decide) (by decide +kernel) ⟨by decide, by decide⟩) ?_
  exact st_ret hX d_G_takePrepare_69 rfl
theorem b_G_takePrepare_70 {l : Launch} {D : va_G} {cid : Nat → ClassId} {X : CT} {Post : PT} (hX : OK l D cid m_G_takePrepare X Post) : SS l D cid m_G_takePrepare X 70 [o_aload 2, o_getf 1 6, o_getf 0 1, o_aload 1, o_getf 2 4, o_getf 0 1, o_push (.int 1), o_bin (fun x y => x + y)] (t_cmp (fun x y => ¬ x = y) (FR l D cid m_G_takePrepare X 125) (FR l D cid m_G_takePrepare X 89)) := by
  refine SS.cons (so_aload_n hX d_G_takePrepare_70 rfl) ?_
  refine SS.cons (so_getf (C := R_E) (T := T_E) hX d_G_takePrepare_71 in_E rfl (by decide) k_258) ?_
  refine SS.cons (so_getf (C := R_L) (T := T_L) hX d_G_takePrepare_74 in_L rfl (by decide) k_76) ?_
  refine SS.cons (so_aload_n hX d_G_takePrepare_77 rfl) ?_
  refine SS.cons (so_getf (C := R_P) (T := T_P) hX d_G_takePrepare_78 in_P rfl (by decide) k_113) ?_
  refine SS.cons (so_getf (C := R_L) (T := T_L) hX d_G_takePrepare_81 in_L rfl (by decide) k_76) ?_
  refine SS.cons (so_iconst hX d_G_takePrepare_84 (by decide)) ?_
  refine SS.cons (so_iadd hX d_G_takePrepare_85) ?_
  exact st_icmp_ne hX d_G_takePrepare_86 (by decide)
theorem b_G_takePrepare_89 {l : Launch} {D : va_G} {cid : Nat → ClassId} {X : CT} {Post : PT} (hX : OK l D cid m_G_takePrepare X Post) : SS l D cid m_G_takePrepare X 89 [o_aload 1, o_new 0 6 df_L, o_dup, o_aload 1, o_getf 2 4, o_aload 2, o_getf 1 6, o_getf 0 2, o_aload 2, o_getf 1 6, o_getf 0 3, o_aload 2, o_getf 1 6, o_getf 0 4, o_callI l D cid m_L_init2 4, o_put okR 2 4] (FR l D cid m_G_takePrepare X 125) := by
  refine SS.cons (so_aload_n hX d_G_takePrepare_89 rfl) ?_
  refine SS.cons (so_new (C := R_L) (T := T_L) hX d_G_takePrepare_90 in_L ty_L k_225 k_69 k_47 rfl dv_L) ?_
  refine SS.cons (so_dup hX d_G_takePrepare_93) ?_
  refine SS.cons (so_aload_n hX d_G_takePrepare_94 rfl) ?_
  refine SS.cons (so_getf (C := R_P) (T := T_P) hX d_G_takePrepare_95 in_P rfl (by decide) k_113) ?_
  refine SS.cons (so_aload_n hX d_G_takePrepare_98 rfl) ?_
  refine SS.cons (so_getf (C := R_E) (T := T_E) hX d_G_takePrepare_99 in_E rfl (by decide) k_258) ?_
  refine SS.cons (so_getf (C := R_L) (T := T_L) hX d_G_takePrepare_102 in_L rfl (by decide) k_79) ?_
  refine SS.cons (so_aload_n hX d_G_takePrepare_105 rfl) ?_
  refine SS.cons (so_getf (C := R_E) (T := T_E) hX d_G_takePrepare_106 in_E rfl (by decide) k_258) ?_
  refine SS.cons (so_getf (C := R_L) (T := T_L) hX d_G_takePrepare_109 in_L rfl (by decide) k_81) ?_
  refine SS.cons (so_aload_n hX d_G_takePrepare_112 rfl) ?_
  refine SS.cons (so_getf (C := R_E) (T := T_E) hX d_G_takePrepare_113 in_E rfl (by decide) k_258) ?_
  refine SS.cons (so_getf (C := R_L) (T := T_L) hX d_G_takePrepare_116 in_L rfl (by decide) k_83) ?_
  refine SS.cons (so_callI (M' := m_L_init2) hX d_G_takePrepare_119 k_228 rfl k_226 k_227 k_47 rfl pf_L_init2 (by decide) (by decide +kernel) ⟨by decide, by decide⟩) ?_
  refine SS.cons (so_put (C := R_P) (T := T_P) (ok_O _) hX d_G_takePrepare_122 in_P ty_P nm_P rfl (by decide) k_113 rfl rfl) ?_
  exact SS.fall
theorem b_G_takePrepare_125 {l : Launch} {D : va_G} {cid : Nat → ClassId} {X : CT} {Post : PT} (hX : OK l D cid m_G_takePrepare X Post) : SS l D cid m_G_takePrepare X 125 [o_aload 1, o_aload 1, o_getf 2 5, o_aload 2, o_getf 1 7, o_aload 1, o_getf 2 4, o_getf 0 1, o_callS l D cid m_J_min 2, o_callS l D cid m_J_max 2, o_put okI 2 5, o_aload 0, o_aload 1, o_push (.int 2), o_aload 2, o_getf 1 1, o_callV l D cid m_G_send 3 3] (t_ret Post) := by
  refine SS.cons (so_aload_n hX d_G_takePrepare_125 rfl) ?_
  refine SS.cons (so_aload_n hX d_G_takePrepare_126 rfl) ?_
  refine SS.cons (so_getf (C := R_P) (T := T_P) hX d_G_takePrepare_127 in_P rfl (by decide) k_116) ?_
  refine SS.cons (so_aload_n hX d_G_takePrepare_130 rfl) ?_
  refine SS.cons (so_getf (C := R_E) (T := T_E) hX d_G_takePrepare_131 in_E rfl (by decide) k_261) ?_
  refine SS.cons (so_aload_n hX d_G_takePrepare_134 rfl) ?_
  refine SS.cons (so_getf (C := R_P) (T := T_P) hX d_G_takePrepare_135 in_P rfl (by decide) k_113) ?_
  refine SS.cons (so_getf (C := R_L) (T := T_L) hX d_G_takePrepare_138 in_L rfl (by decide) k_76) ?_
  refine SS.cons (so_callS (M' := m_J_min) hX d_G_takePrepare_141 k_323 k_321 k_322 k_49 pf_J_min (by decide) (by decide +kernel) ⟨by decide, by decide⟩) ?_
  refine SS.cons (so_callS (M' := m_J_max) hX d_G_takePrepare_144 k_212 k_324 k_211 k_49 pf_J_max (by decide) (by decide +kernel) ⟨by decide, by decide⟩) ?_
  refine SS.cons (so_put (C := R_P) (T := T_P) ok_I hX d_G_takePrepare_147 in_P ty_P nm_P rfl (by decide) k_116 rfl rfl) ?_
  refine SS.cons (so_aload_n hX d_G_takePrepare_150 rfl) ?_
  refine SS.cons (so_aload_n hX d_G_takePrepare_151 rfl) ?_
  refine SS.cons (so_iconst hX d_G_takePrepare_152 (by decide)) ?_
  refine SS.cons (so_aload_n hX d_G_takePrepare_153 rfl) ?_
  refine SS.cons (so_getf (C := R_E) (T := T_E) hX d_G_takePrepare_154 in_E rfl (by decide) k_245) ?_
  refine SS.cons (so_callV (M' := m_G_send) (T := T_G) hX d_G_takePrepare_157 rfl k_236 k_233 k_235 k_6 k_45 pf_G_send (by decide) (by decide +kernel) ⟨by decide, by decide⟩) ?_
  exact st_ret hX d_G_takePrepare_160 rfl
abbrev m_G_takeOk : MT := (⟨"GroupLog", "takeOk", "(LGroupLog$Replica;LGroupLog$Message;)V"⟩, prog_1_method_38_code, 6, (none : Option FieldType), { frames := 3, cells := 0, slots := 0, locals := 64 })
theorem pf_G_takeOk : plainFor m_G_takeOk.1 = true := by decide +kernel
theorem d_G_takeOk_0 : decode prog_1_method_38_code 0 = .ok (.aload_n 0, 1) := by decide +kernel
theorem d_G_takeOk_1 : decode prog_1_method_38_code 1 = .ok (.aload_n 1, 1) := by decide +kernel
theorem d_G_takeOk_2 : decode prog_1_method_38_code 2 = .ok (.invokevirtual 51, 3) := by decide +kernel
theorem d_G_takeOk_5 : decode prog_1_method_38_code 5 = .ok (.ifCond .eq 14, 3) := by decide +kernel
theorem d_G_takeOk_8 : decode prog_1_method_38_code 8 = .ok (.aload_n 2, 1) := by decide +kernel
theorem d_G_takeOk_9 : decode prog_1_method_38_code 9 = .ok (.getfield 157, 3) := by decide +kernel
theorem d_G_takeOk_12 : decode prog_1_method_38_code 12 = .ok (.aload_n 1, 1) := by decide +kernel
theorem d_G_takeOk_13 : decode prog_1_method_38_code 13 = .ok (.getfield 100, 3) := by decide +kernel
theorem d_G_takeOk_16 : decode prog_1_method_38_code 16 = .ok (.if_icmp .eq 4, 3) := by decide +kernel
theorem d_G_takeOk_19 : decode prog_1_method_38_code 19 = .ok (.return_, 1) := by decide +kernel
theorem d_G_takeOk_20 : decode prog_1_method_38_code 20 = .ok (.aload_n 1, 1) := by decide +kernel
theorem d_G_takeOk_21 : decode prog_1_method_38_code 21 = .ok (.getfield 220, 3) := by decide +kernel
theorem d_G_takeOk_24 : decode prog_1_method_38_code 24 = .ok (.aload_n 2, 1) := by decide +kernel
theorem d_G_takeOk_25 : decode prog_1_method_38_code 25 = .ok (.getfield 151, 3) := by decide +kernel
theorem d_G_takeOk_28 : decode prog_1_method_38_code 28 = .ok (.aload_n 1, 1) := by decide +kernel
theorem d_G_takeOk_29 : decode prog_1_method_38_code 29 = .ok (.getfield 220, 3) := by decide +kernel
theorem d_G_takeOk_32 : decode prog_1_method_38_code 32 = .ok (.aload_n 2, 1) := by decide +kernel
theorem d_G_takeOk_33 : decode prog_1_method_38_code 33 = .ok (.getfield 151, 3) := by decide +kernel
theorem d_G_takeOk_36 : decode prog_1_method_38_code 36 = .ok (.iaload, 1) := by decide +kernel
theorem d_G_takeOk_37 : decode prog_1_method_38_code 37 = .ok (.aload_n 2, 1) := by decide +kernel
theorem d_G_takeOk_38 : decode prog_1_method_38_code 38 = .ok (.getfield 215, 3) := by decide +kernel
theorem d_G_takeOk_41 : decode prog_1_method_38_code 41 = .ok (.getfield 73, 3) := by decide +kernel
theorem d_G_takeOk_44 : decode prog_1_method_38_code 44 = .ok (.invokestatic 91, 3) := by decide +kernel
theorem d_G_takeOk_47 : decode prog_1_method_38_code 47 = .ok (.iastore, 1) := by decide +kernel
theorem d_G_takeOk_48 : decode prog_1_method_38_code 48 = .ok (.aload_n 1, 1) := by decide +kernel
theorem d_G_takeOk_49 : decode prog_1_method_38_code 49 = .ok (.getfield 125, 3) := by decide +kernel
theorem d_G_takeOk_52 : decode prog_1_method_38_code 52 = .ok (.istore_n 3, 1) := by decide +kernel
theorem d_G_takeOk_53 : decode prog_1_method_38_code 53 = .ok (.aload_n 1, 1) := by decide +kernel
theorem d_G_takeOk_54 : decode prog_1_method_38_code 54 = .ok (.aload_n 1, 1) := by decide +kernel
theorem d_G_takeOk_55 : decode prog_1_method_38_code 55 = .ok (.aload_n 0, 1) := by decide +kernel
theorem d_G_takeOk_56 : decode prog_1_method_38_code 56 = .ok (.getfield 32, 3) := by decide +kernel
theorem d_G_takeOk_59 : decode prog_1_method_38_code 59 = .ok (.invokevirtual 223, 3) := by decide +kernel
theorem d_G_takeOk_62 : decode prog_1_method_38_code 62 = .ok (.putfield 125, 3) := by decide +kernel
theorem d_G_takeOk_65 : decode prog_1_method_38_code 65 = .ok (.aload_n 1, 1) := by decide +kernel
theorem d_G_takeOk_66 : decode prog_1_method_38_code 66 = .ok (.getfield 125, 3) := by decide +kernel
theorem d_G_takeOk_69 : decode prog_1_method_38_code 69 = .ok (.aload_n 1, 1) := by decide +kernel
theorem d_G_takeOk_70 : decode prog_1_method_38_code 70 = .ok (.getfield 55, 3) := by decide +kernel
theorem d_G_takeOk_73 : decode prog_1_method_38_code 73 = .ok (.getfield 73, 3) := by decide +kernel
theorem d_G_takeOk_76 : decode prog_1_method_38_code 76 = .ok (.invokestatic 217, 3) := by decide +kernel
theorem d_G_takeOk_79 : decode prog_1_method_38_code 79 = .ok (.istore 4, 2) := by decide +kernel
theorem d_G_takeOk_81 : decode prog_1_method_38_code 81 = .ok (.iload_n 3, 1) := by decide +kernel
theorem d_G_takeOk_82 : decode prog_1_method_38_code 82 = .ok (.iconst 1, 1) := by decide +kernel
theorem d_G_takeOk_83 : decode prog_1_method_38_code 83 = .ok (.iadd, 1) := by decide +kernel
theorem d_G_takeOk_84 : decode prog_1_method_38_code 84 = .ok (.istore 5, 2) := by decide +kernel
theorem d_G_takeOk_86 : decode prog_1_method_38_code 86 = .ok (.iload 5, 2) := by decide +kernel
theorem d_G_takeOk_88 : decode prog_1_method_38_code 88 = .ok (.iload 4, 2) := by decide +kernel
theorem d_G_takeOk_90 : decode prog_1_method_38_code 90 = .ok (.if_icmp .gt 22, 3) := by decide +kernel
theorem d_G_takeOk_93 : decode prog_1_method_38_code 93 = .ok (.aload_n 0, 1) := by decide +kernel
theorem d_G_takeOk_94 : decode prog_1_method_38_code 94 = .ok (.aload_n 1, 1) := by decide +kernel
theorem d_G_takeOk_95 : decode prog_1_method_38_code 95 = .ok (.getfield 55, 3) := by decide +kernel
theorem d_G_takeOk_98 : decode prog_1_method_38_code 98 = .ok (.iload 5, 2) := by decide +kernel
theorem d_G_takeOk_100 : decode prog_1_method_38_code 100 = .ok (.invokevirtual 132, 3) := by decide +kernel
theorem d_G_takeOk_103 : decode prog_1_method_38_code 103 = .ok (.invokevirtual 164, 3) := by decide +kernel
theorem d_G_takeOk_106 : decode prog_1_method_38_code 106 = .ok (.iinc 5 1, 3) := by decide +kernel
theorem d_G_takeOk_109 : decode prog_1_method_38_code 109 = .ok (.goto (-23), 3) := by decide +kernel
theorem d_G_takeOk_112 : decode prog_1_method_38_code 112 = .ok (.return_, 1) := by decide +kernel
theorem b_G_takeOk_0 {l : Launch} {D : va_G} {cid : Nat → ClassId} {X : CT} {Post : PT} (hX : OK l D cid m_G_takeOk X Post) : SS l D cid m_G_takeOk X 0 [o_aload 0, o_aload 1, o_callV l D cid m_G_leads 3 1] (t_if (fun x => x = 0) (FR l D cid m_G_takeOk X 19) (FR l D cid m_G_takeOk X 8)) := by
  refine SS.cons (so_aload_n hX d_G_takeOk_0 rfl) ?_
  refine SS.cons (so_aload_n hX d_G_takeOk_1 rfl) ?_
  refine SS.cons (so_callV (M' := m_G_leads) (T := T_G) hX d_G_takeOk_2 rfl k_198 k_195 k_197 k_1 k_45 pf_G_leads (by decide) (by decide +kernel) ⟨by decide, by decide⟩) ?_
  exact st_if_eq hX d_G_takeOk_5 (by decide)
theorem b_G_takeOk_8 {l : Launch} {D : va_G} {cid : Nat → ClassId} {X : CT} {Post : PT} (hX : OK l D cid m_G_takeOk X Post) : SS l D cid m_G_takeOk X 8 [o_aload 2, o_getf 1 3, o_aload 1, o_getf 2 2] (t_cmp (fun x y => x = y) (FR l D cid m_G_takeOk X 20) (FR l D cid m_G_takeOk X 19)) := by
  refine SS.cons (so_aload_n hX d_G_takeOk_8 rfl) ?_
  refine SS.cons (so_getf (C := R_E) (T := T_E) hX d_G_takeOk_9 in_E rfl (by decide) k_250) ?_
  refine SS.cons (so_aload_n hX d_G_takeOk_12 rfl) ?_
  refine SS.cons (so_getf (C := R_P) (T := T_P) hX d_G_takeOk_13 in_P rfl (by decide) k_108) ?_
  exact st_icmp_eq hX d_G_takeOk_16 (by decide)
theorem b_G_takeOk_19 {l : Launch} {D : va_G} {cid : Nat → ClassId} {X : CT} {Post : PT} (hX : OK l D cid m_G_takeOk X Post) : SS l D cid m_G_takeOk X 19 [] (t_ret Post) := by
  exact st_ret hX d_G_takeOk_19 rfl
theorem b_G_takeOk_20 {l : Launch} {D : va_G} {cid : Nat → ClassId} {X : CT} {Post : PT} (hX : OK l D cid m_G_takeOk X Post) : SS l D cid m_G_takeOk X 20 [o_aload 1, o_getf 2 7, o_aload 2, o_getf 1 1, o_aload 1, o_getf 2 7, o_aload 2, o_getf 1 1, o_ald 0, o_aload 2, o_getf 1 6, o_getf 0 1, o_callS l D cid m_J_max 2, o_ast, o_aload 1, o_getf 2 5, o_istore 3, o_aload 1, o_aload 1, o_aload 0, o_getf 3 1, o_callV l D cid m_P_ackedBy 2 1, o_put okI 2 5, o_aload 1, o_getf 2 5, o_aload 1, o_getf 2 4, o_getf 0 1, o_callS l D cid m_J_min 2, o_istore 4, o_iload 3, o_push (.int 1), o_bin (fun x y => x + y), o_istore 5] (FR l D cid m_G_takeOk X 86) := by
  refine SS.cons (so_aload_n hX d_G_takeOk_20 rfl) ?_
  refine SS.cons (so_getf (C := R_P) (T := T_P) hX d_G_takeOk_21 in_P rfl (by decide) k_121) ?_
  refine SS.cons (so_aload_n hX d_G_takeOk_24 rfl) ?_
  refine SS.cons (so_getf (C := R_E) (T := T_E) hX d_G_takeOk_25 in_E rfl (by decide) k_245) ?_
  refine SS.cons (so_aload_n hX d_G_takeOk_28 rfl) ?_
  refine SS.cons (so_getf (C := R_P) (T := T_P) hX d_G_takeOk_29 in_P rfl (by decide) k_121) ?_
  refine SS.cons (so_aload_n hX d_G_takeOk_32 rfl) ?_
  refine SS.cons (so_getf (C := R_E) (T := T_E) hX d_G_takeOk_33 in_E rfl (by decide) k_245) ?_
  refine SS.cons (so_iald hX d_G_takeOk_36) ?_
  refine SS.cons (so_aload_n hX d_G_takeOk_37 rfl) ?_
  refine SS.cons (so_getf (C := R_E) (T := T_E) hX d_G_takeOk_38 in_E rfl (by decide) k_258) ?_
  refine SS.cons (so_getf (C := R_L) (T := T_L) hX d_G_takeOk_41 in_L rfl (by decide) k_76) ?_
  refine SS.cons (so_callS (M' := m_J_max) hX d_G_takeOk_44 k_212 k_324 k_211 k_49 pf_J_max (by decide) (by decide +kernel) ⟨by decide, by decide⟩) ?_
  refine SS.cons (so_iast hX d_G_takeOk_47) ?_
  refine SS.cons (so_aload_n hX d_G_takeOk_48 rfl) ?_
  refine SS.cons (so_getf (C := R_P) (T := T_P) hX d_G_takeOk_49 in_P rfl (by decide) k_116) ?_
  refine SS.cons (so_istore_n hX d_G_takeOk_52 rfl (by decide)) ?_
  refine SS.cons (so_aload_n hX d_G_takeOk_53 rfl) ?_
  refine SS.cons (so_aload_n hX d_G_takeOk_54 rfl) ?_
  refine SS.cons (so_aload_n hX d_G_takeOk_55 rfl) ?_
  refine SS.cons (so_getf (C := R_G) (T := T_G) hX d_G_takeOk_56 in_G rfl (by decide) k_160) ?_
  refine SS.cons (so_callV (M' := m_P_ackedBy) (T := T_P) hX d_G_takeOk_59 rfl k_332 k_329 k_330 k_331 k_46 pf_P_ackedBy (by decide) (by decide +kernel) ⟨by decide, by decide⟩) ?_
  refine SS.cons (so_put (C := R_P) (T := T_P) ok_I hX d_G_takeOk_62 in_P ty_P nm_P rfl (by decide) k_116 rfl rfl) ?_
  refine SS.cons (so_aload_n hX d_G_takeOk_65 rfl) ?_
  refine SS.cons (so_getf (C := R_P) (T := T_P) hX d_G_takeOk_66 in_P rfl (by decide) k_116) ?_
  refine SS.cons (so_aload_n hX d_G_takeOk_69 rfl) ?_
  refine SS.cons (so_getf (C := R_P) (T := T_P) hX d_G_takeOk_70 in_P rfl (by decide) k_113) ?_
  refine SS.cons (so_getf (C := R_L) (T := T_L) hX d_G_takeOk_73 in_L rfl (by decide) k_76) ?_
  refine SS.cons (so_callS (M' := m_J_min) hX d_G_takeOk_76 k_323 k_321 k_322 k_49 pf_J_min (by decide) (by decide +kernel) ⟨by decide, by decide⟩) ?_
  refine SS.cons (so_istore hX d_G_takeOk_79 (by decide)) ?_
  refine SS.cons (so_iload_n hX d_G_takeOk_81 rfl) ?_
  refine SS.cons (so_iconst hX d_G_takeOk_82 (by decide)) ?_
  refine SS.cons (so_iadd hX d_G_takeOk_83) ?_
  refine SS.cons (so_istore hX d_G_takeOk_84 (by decide)) ?_
  exact SS.fall
theorem b_G_takeOk_86 {l : Launch} {D : va_G} {cid : Nat → ClassId} {X : CT} {Post : PT} (hX : OK l D cid m_G_takeOk X Post) : SS l D cid m_G_takeOk X 86 [o_iload 5, o_iload 4] (t_cmp (fun x y => y < x) (FR l D cid m_G_takeOk X 112) (FR l D cid m_G_takeOk X 93)) := by
  refine SS.cons (so_iload hX d_G_takeOk_86) ?_
  refine SS.cons (so_iload hX d_G_takeOk_88) ?_
  exact st_icmp_gt hX d_G_takeOk_90 (by decide)
theorem b_G_takeOk_93 {l : Launch} {D : va_G} {cid : Nat → ClassId} {X : CT} {Post : PT} (hX : OK l D cid m_G_takeOk X Post) : SS l D cid m_G_takeOk X 93 [o_aload 0, o_aload 1, o_getf 2 4, o_iload 5, o_callV l D cid m_L_firstEntries 0 1, o_callV l D cid m_G_answerClient 3 1, o_iinc 5 1] (FR l D cid m_G_takeOk X 86) := by
  refine SS.cons (so_aload_n hX d_G_takeOk_93 rfl) ?_
  refine SS.cons (so_aload_n hX d_G_takeOk_94 rfl) ?_
  refine SS.cons (so_getf (C := R_P) (T := T_P) hX d_G_takeOk_95 in_P rfl (by decide) k_113) ?_
  refine SS.cons (so_iload hX d_G_takeOk_98) ?_
  refine SS.cons (so_callV (M' := m_L_firstEntries) (T := T_L) hX d_G_takeOk_100 rfl k_340 k_337 k_338 k_339 k_47 pf_L_firstEntries (by decide) (by decide +kernel) ⟨by decide, by decide⟩) ?_
  refine SS.cons (so_callV (M' := m_G_answerClient) (T := T_G) hX d_G_takeOk_103 rfl k_224 k_221 k_223 k_4 k_45 pf_G_answerClient (by decide) (by decide +kernel) ⟨by decide, by decide⟩) ?_
  refine SS.cons (so_iinc hX d_G_takeOk_106 (by decide) (by decide)) ?_
  exact so_goto hX d_G_takeOk_109 (by decide)
theorem b_G_takeOk_112 {l : Launch} {D : va_G} {cid : Nat → ClassId} {X : CT} {Post : PT} (hX : OK l D cid m_G_takeOk X Post) : SS l D cid m_G_takeOk X 112 [] (t_ret Post) := by
  exact st_ret hX d_G_takeOk_112 rfl
abbrev m_G_replyIfNormal : MT := (⟨"GroupLog", "replyIfNormal", "(LGroupLog$Replica;LGroupLog$Message;I)V"⟩, prog_1_method_36_code, 4, (none : Option FieldType), { frames := 3, cells := 1, slots := 8, locals := 66 })
theorem pf_G_replyIfNormal : plainFor m_G_replyIfNormal.1 = true := by decide +kernel
theorem d_G_replyIfNormal_0 : decode prog_1_method_36_code 0 = .ok (.aload_n 1, 1) := by decide +kernel
theorem d_G_replyIfNormal_1 : decode prog_1_method_36_code 1 = .ok (.getfield 97, 3) := by decide +kernel
theorem d_G_replyIfNormal_4 : decode prog_1_method_36_code 4 = .ok (.ifCond .ne 13, 3) := by decide +kernel
theorem d_G_replyIfNormal_7 : decode prog_1_method_36_code 7 = .ok (.aload_n 0, 1) := by decide +kernel
theorem d_G_replyIfNormal_8 : decode prog_1_method_36_code 8 = .ok (.aload_n 1, 1) := by decide +kernel
theorem d_G_replyIfNormal_9 : decode prog_1_method_36_code 9 = .ok (.iload_n 3, 1) := by decide +kernel
theorem d_G_replyIfNormal_10 : decode prog_1_method_36_code 10 = .ok (.aload_n 2, 1) := by decide +kernel
theorem d_G_replyIfNormal_11 : decode prog_1_method_36_code 11 = .ok (.getfield 151, 3) := by decide +kernel
theorem d_G_replyIfNormal_14 : decode prog_1_method_36_code 14 = .ok (.invokevirtual 171, 3) := by decide +kernel
theorem d_G_replyIfNormal_17 : decode prog_1_method_36_code 17 = .ok (.return_, 1) := by decide +kernel
theorem b_G_replyIfNormal_0 {l : Launch} {D : va_G} {cid : Nat → ClassId} {X : CT} {Post : PT} (hX : OK l D cid m_G_replyIfNormal X Post) : SS l D cid m_G_replyIfNormal X 0 [o_aload 1, o_getf 2 1] (t_if (fun x => ¬ x = 0) (FR l D cid m_G_replyIfNormal X 17) (FR l D cid m_G_replyIfNormal X 7)) := by
  refine SS.cons (so_aload_n hX d_G_replyIfNormal_0 rfl) ?_
  refine SS.cons (so_getf (C := R_P) (T := T_P) hX d_G_replyIfNormal_1 in_P rfl (by decide) k_105) ?_
  exact st_if_ne hX d_G_replyIfNormal_4 (by decide)
theorem b_G_replyIfNormal_7 {l : Launch} {D : va_G} {cid : Nat → ClassId} {X : CT} {Post : PT} (hX : OK l D cid m_G_replyIfNormal X Post) : SS l D cid m_G_replyIfNormal X 7 [o_aload 0, o_aload 1, o_iload 3, o_aload 2, o_getf 1 1, o_callV l D cid m_G_send 3 3] (FR l D cid m_G_replyIfNormal X 17) := by
  refine SS.cons (so_aload_n hX d_G_replyIfNormal_7 rfl) ?_
  refine SS.cons (so_aload_n hX d_G_replyIfNormal_8 rfl) ?_
  refine SS.cons (so_iload_n hX d_G_replyIfNormal_9 rfl) ?_
  refine SS.cons (so_aload_n hX d_G_replyIfNormal_10 rfl) ?_
  refine SS.cons (so_getf (C := R_E) (T := T_E) hX d_G_replyIfNormal_11 in_E rfl (by decide) k_245) ?_
  refine SS.cons (so_callV (M' := m_G_send) (T := T_G) hX d_G_replyIfNormal_14 rfl k_236 k_233 k_235 k_6 k_45 pf_G_send (by decide) (by decide +kernel) ⟨by decide, by decide⟩) ?_
  exact SS.fall
theorem b_G_replyIfNormal_17 {l : Launch} {D : va_G} {cid : Nat → ClassId} {X : CT} {Post : PT} (hX : OK l D cid m_G_replyIfNormal X Post) : SS l D cid m_G_replyIfNormal X 17 [] (t_ret Post) := by
  exact st_ret hX d_G_replyIfNormal_17 rfl
abbrev m_G_takeState : MT := (⟨"GroupLog", "takeState", "(LGroupLog$Replica;LGroupLog$Message;)V"⟩, prog_1_method_39_code, 4, (none : Option FieldType), { frames := 3, cells := 1, slots := 8, locals := 66 })
theorem pf_G_takeState : plainFor m_G_takeState.1 = true := by decide +kernel
theorem d_G_takeState_0 : decode prog_1_method_39_code 0 = .ok (.aload_n 0, 1) := by decide +kernel
theorem d_G_takeState_1 : decode prog_1_method_39_code 1 = .ok (.aload_n 2, 1) := by decide +kernel
theorem d_G_takeState_2 : decode prog_1_method_39_code 2 = .ok (.getfield 157, 3) := by decide +kernel
theorem d_G_takeState_5 : decode prog_1_method_39_code 5 = .ok (.invokevirtual 161, 3) := by decide +kernel
theorem d_G_takeState_8 : decode prog_1_method_39_code 8 = .ok (.aload_n 1, 1) := by decide +kernel
theorem d_G_takeState_9 : decode prog_1_method_39_code 9 = .ok (.getfield 122, 3) := by decide +kernel
theorem d_G_takeState_12 : decode prog_1_method_39_code 12 = .ok (.if_icmp .ne 4, 3) := by decide +kernel
theorem d_G_takeState_15 : decode prog_1_method_39_code 15 = .ok (.return_, 1) := by decide +kernel
theorem d_G_takeState_16 : decode prog_1_method_39_code 16 = .ok (.aload_n 1, 1) := by decide +kernel
theorem d_G_takeState_17 : decode prog_1_method_39_code 17 = .ok (.getfield 97, 3) := by decide +kernel
theorem d_G_takeState_20 : decode prog_1_method_39_code 20 = .ok (.iconst 1, 1) := by decide +kernel
theorem d_G_takeState_21 : decode prog_1_method_39_code 21 = .ok (.if_icmp .eq 20, 3) := by decide +kernel
theorem d_G_takeState_24 : decode prog_1_method_39_code 24 = .ok (.aload_n 2, 1) := by decide +kernel
theorem d_G_takeState_25 : decode prog_1_method_39_code 25 = .ok (.getfield 215, 3) := by decide +kernel
theorem d_G_takeState_28 : decode prog_1_method_39_code 28 = .ok (.getfield 73, 3) := by decide +kernel
theorem d_G_takeState_31 : decode prog_1_method_39_code 31 = .ok (.aload_n 1, 1) := by decide +kernel
theorem d_G_takeState_32 : decode prog_1_method_39_code 32 = .ok (.getfield 55, 3) := by decide +kernel
theorem d_G_takeState_35 : decode prog_1_method_39_code 35 = .ok (.getfield 73, 3) := by decide +kernel
theorem d_G_takeState_38 : decode prog_1_method_39_code 38 = .ok (.if_icmp .le 7, 3) := by decide +kernel
theorem d_G_takeState_41 : decode prog_1_method_39_code 41 = .ok (.iconst 1, 1) := by decide +kernel
theorem d_G_takeState_42 : decode prog_1_method_39_code 42 = .ok (.goto 4, 3) := by decide +kernel
theorem d_G_takeState_45 : decode prog_1_method_39_code 45 = .ok (.iconst 0, 1) := by decide +kernel
theorem d_G_takeState_46 : decode prog_1_method_39_code 46 = .ok (.istore_n 3, 1) := by decide +kernel
theorem d_G_takeState_47 : decode prog_1_method_39_code 47 = .ok (.aload_n 2, 1) := by decide +kernel
theorem d_G_takeState_48 : decode prog_1_method_39_code 48 = .ok (.getfield 157, 3) := by decide +kernel
theorem d_G_takeState_51 : decode prog_1_method_39_code 51 = .ok (.aload_n 1, 1) := by decide +kernel
theorem d_G_takeState_52 : decode prog_1_method_39_code 52 = .ok (.getfield 100, 3) := by decide +kernel
theorem d_G_takeState_55 : decode prog_1_method_39_code 55 = .ok (.if_icmp .gt 18, 3) := by decide +kernel
theorem d_G_takeState_58 : decode prog_1_method_39_code 58 = .ok (.aload_n 2, 1) := by decide +kernel
theorem d_G_takeState_59 : decode prog_1_method_39_code 59 = .ok (.getfield 157, 3) := by decide +kernel
theorem d_G_takeState_62 : decode prog_1_method_39_code 62 = .ok (.aload_n 1, 1) := by decide +kernel
theorem d_G_takeState_63 : decode prog_1_method_39_code 63 = .ok (.getfield 100, 3) := by decide +kernel
theorem d_G_takeState_66 : decode prog_1_method_39_code 66 = .ok (.if_icmp .ne 44, 3) := by decide +kernel
theorem d_G_takeState_69 : decode prog_1_method_39_code 69 = .ok (.iload_n 3, 1) := by decide +kernel
theorem d_G_takeState_70 : decode prog_1_method_39_code 70 = .ok (.ifCond .eq 40, 3) := by decide +kernel
theorem d_G_takeState_73 : decode prog_1_method_39_code 73 = .ok (.aload_n 1, 1) := by decide +kernel
theorem d_G_takeState_74 : decode prog_1_method_39_code 74 = .ok (.aload_n 2, 1) := by decide +kernel
theorem d_G_takeState_75 : decode prog_1_method_39_code 75 = .ok (.getfield 157, 3) := by decide +kernel
theorem d_G_takeState_78 : decode prog_1_method_39_code 78 = .ok (.aload_n 2, 1) := by decide +kernel
theorem d_G_takeState_79 : decode prog_1_method_39_code 79 = .ok (.getfield 215, 3) := by decide +kernel
theorem d_G_takeState_82 : decode prog_1_method_39_code 82 = .ok (.aload_n 1, 1) := by decide +kernel
theorem d_G_takeState_83 : decode prog_1_method_39_code 83 = .ok (.getfield 125, 3) := by decide +kernel
theorem d_G_takeState_86 : decode prog_1_method_39_code 86 = .ok (.aload_n 2, 1) := by decide +kernel
theorem d_G_takeState_87 : decode prog_1_method_39_code 87 = .ok (.getfield 216, 3) := by decide +kernel
theorem d_G_takeState_90 : decode prog_1_method_39_code 90 = .ok (.invokestatic 91, 3) := by decide +kernel
theorem d_G_takeState_93 : decode prog_1_method_39_code 93 = .ok (.invokevirtual 226, 3) := by decide +kernel
theorem d_G_takeState_96 : decode prog_1_method_39_code 96 = .ok (.aload_n 0, 1) := by decide +kernel
theorem d_G_takeState_97 : decode prog_1_method_39_code 97 = .ok (.aload_n 1, 1) := by decide +kernel
theorem d_G_takeState_98 : decode prog_1_method_39_code 98 = .ok (.iconst 2, 1) := by decide +kernel
theorem d_G_takeState_99 : decode prog_1_method_39_code 99 = .ok (.aload_n 0, 1) := by decide +kernel
theorem d_G_takeState_100 : decode prog_1_method_39_code 100 = .ok (.aload_n 2, 1) := by decide +kernel
theorem d_G_takeState_101 : decode prog_1_method_39_code 101 = .ok (.getfield 157, 3) := by decide +kernel
theorem d_G_takeState_104 : decode prog_1_method_39_code 104 = .ok (.invokevirtual 161, 3) := by decide +kernel
theorem d_G_takeState_107 : decode prog_1_method_39_code 107 = .ok (.invokevirtual 171, 3) := by decide +kernel
theorem d_G_takeState_110 : decode prog_1_method_39_code 110 = .ok (.return_, 1) := by decide +kernel
theorem b_G_takeState_0 {l : Launch} {D : va_G} {cid : Nat → ClassId} {X : CT} {Post : PT} (hX : OK l D cid m_G_takeState X Post) : SS l D cid m_G_takeState X 0 [o_aload 0, o_aload 2, o_getf 1 3, o_callV l D cid m_G_primaryOf 3 1, o_aload 1, o_getf 2 0] (t_cmp (fun x y => ¬ x = y) (FR l D cid m_G_takeState X 16) (FR l D cid m_G_takeState X 15)) := by
  refine SS.cons (so_aload_n hX d_G_takeState_0 rfl) ?_
  refine SS.cons (so_aload_n hX d_G_takeState_1 rfl) ?_
  refine SS.cons (so_getf (C := R_E) (T := T_E) hX d_G_takeState_2 in_E rfl (by decide) k_250) ?_
  refine SS.cons (so_callV (M' := m_G_primaryOf) (T := T_G) hX d_G_takeState_5 rfl k_202 k_199 k_201 k_2 k_45 pf_G_primaryOf (by decide) (by decide +kernel) ⟨by decide, by decide⟩) ?_
  refine SS.cons (so_aload_n hX d_G_takeState_8 rfl) ?_
  refine SS.cons (so_getf (C := R_P) (T := T_P) hX d_G_takeState_9 in_P rfl (by decide) k_103) ?_
  exact st_icmp_ne hX d_G_takeState_12 (by decide)
theorem b_G_takeState_15 {l : Launch} {D : va_G} {cid : Nat → ClassId} {X : CT} {Post : PT} (hX : OK l D cid m_G_takeState X Post) : SS l D cid m_G_takeState X 15 [] (t_ret Post) := by
  exact st_ret hX d_G_takeState_15 rfl
theorem b_G_takeState_16 {l : Launch} {D : va_G} {cid : Nat → ClassId} {X : CT} {Post : PT} (hX : OK l D cid m_G_takeState X Post) : SS l D cid m_G_takeState X 16 [o_aload 1, o_getf 2 1, o_push (.int 1)] (t_cmp (fun x y => x = y) (FR l D cid m_G_takeState X 41) (FR l D cid m_G_takeState X 24)) := by
  refine SS.cons (so_aload_n hX d_G_takeState_16 rfl) ?_
  refine SS.cons (so_getf (C := R_P) (T := T_P) hX d_G_takeState_17 in_P rfl (by decide) k_105) ?_
  refine SS.cons (so_iconst hX d_G_takeState_20 (by decide)) ?_
  exact st_icmp_eq hX d_G_takeState_21 (by decide)
theorem b_G_takeState_24 {l : Launch} {D : va_G} {cid : Nat → ClassId} {X : CT} {Post : PT} (hX : OK l D cid m_G_takeState X Post) : SS l D cid m_G_takeState X 24 [o_aload 2, o_getf 1 6, o_getf 0 1, o_aload 1, o_getf 2 4, o_getf 0 1] (t_cmp (fun x y => x ≤ y) (FR l D cid m_G_takeState X 45) (FR l D cid m_G_takeState X 41)) := by
  refine SS.cons (so_aload_n hX d_G_takeState_24 rfl) ?_
  refine SS.cons (so_getf (C := R_E) (T := T_E) hX d_G_takeState_25 in_E rfl (by decide) k_258) ?_
  refine SS.cons (so_getf (C := R_L) (T := T_L) hX d_G_takeState_28 in_L rfl (by decide) k_76) ?_
  refine SS.cons (so_aload_n hX d_G_takeState_31 rfl) ?_
  refine SS.cons (so_getf (C := R_P) (T := T_P) hX d_G_takeState_32 in_P rfl (by decide) k_113) ?_
  refine SS.cons (so_getf (C := R_L) (T := T_L) hX d_G_takeState_35 in_L rfl (by decide) k_76) ?_
  exact st_icmp_le hX d_G_takeState_38 (by decide)
theorem b_G_takeState_41 {l : Launch} {D : va_G} {cid : Nat → ClassId} {X : CT} {Post : PT} (hX : OK l D cid m_G_takeState X Post) : SS l D cid m_G_takeState X 41 [o_push (.int 1)] (FR l D cid m_G_takeState X 46) := by
  refine SS.cons (so_iconst hX d_G_takeState_41 (by decide)) ?_
  exact so_goto hX d_G_takeState_42 (by decide)
theorem b_G_takeState_45 {l : Launch} {D : va_G} {cid : Nat → ClassId} {X : CT} {Post : PT} (hX : OK l D cid m_G_takeState X Post) : SS l D cid m_G_takeState X 45 [o_push (.int 0)] (FR l D cid m_G_takeState X 46) := by
  refine SS.cons (so_iconst hX d_G_takeState_45 (by decide)) ?_
  exact SS.fall
theorem b_G_takeState_46 {l : Launch} {D : va_G} {cid : Nat → ClassId} {X : CT} {Post : PT} (hX : OK l D cid m_G_takeState X Post) : SS l D cid m_G_takeState X 46 [o_istore 3, o_aload 2, o_getf 1 3, o_aload 1, o_getf 2 2] (t_cmp (fun x y => y < x) (FR l D cid m_G_takeState X 73) (FR l D cid m_G_takeState X 58)) := by
  refine SS.cons (so_istore_n hX d_G_takeState_46 rfl (by decide)) ?_
  refine SS.cons (so_aload_n hX d_G_takeState_47 rfl) ?_
  refine SS.cons (so_getf (C := R_E) (T := T_E) hX d_G_takeState_48 in_E rfl (by decide) k_250) ?_
  refine SS.cons (so_aload_n hX d_G_takeState_51 rfl) ?_
  refine SS.cons (so_getf (C := R_P) (T := T_P) hX d_G_takeState_52 in_P rfl (by decide) k_108) ?_
  exact st_icmp_gt hX d_G_takeState_55 (by decide)
theorem b_G_takeState_58 {l : Launch} {D : va_G} {cid : Nat → ClassId} {X : CT} {Post : PT} (hX : OK l D cid m_G_takeState X Post) : SS l D cid m_G_takeState X 58 [o_aload 2, o_getf 1 3, o_aload 1, o_getf 2 2] (t_cmp (fun x y => ¬ x = y) (FR l D cid m_G_takeState X 110) (FR l D cid m_G_takeState X 69)) := by
  refine SS.cons (so_aload_n hX d_G_takeState_58 rfl) ?_
  refine SS.cons (so_getf (C := R_E) (T := T_E) hX d_G_takeState_59 in_E rfl (by decide) k_250) ?_
  refine SS.cons (so_aload_n hX d_G_takeState_62 rfl) ?_
  refine SS.cons (so_getf (C := R_P) (T := T_P) hX d_G_takeState_63 in_P rfl (by decide) k_108) ?_
  exact st_icmp_ne hX d_G_takeState_66 (by decide)
theorem b_G_takeState_69 {l : Launch} {D : va_G} {cid : Nat → ClassId} {X : CT} {Post : PT} (hX : OK l D cid m_G_takeState X Post) : SS l D cid m_G_takeState X 69 [o_iload 3] (t_if (fun x => x = 0) (FR l D cid m_G_takeState X 110) (FR l D cid m_G_takeState X 73)) := by
  refine SS.cons (so_iload_n hX d_G_takeState_69 rfl) ?_
  exact st_if_eq hX d_G_takeState_70 (by decide)
theorem b_G_takeState_73 {l : Launch} {D : va_G} {cid : Nat → ClassId} {X : CT} {Post : PT} (hX : OK l D cid m_G_takeState X Post) : SS l D cid m_G_takeState X 73 [o_aload 1, o_aload 2, o_getf 1 3, o_aload 2, o_getf 1 6, o_aload 1, o_getf 2 5, o_aload 2, o_getf 1 7, o_callS l D cid m_J_max 2, o_callV l D cid m_P_becomeNormal 2 3, o_aload 0, o_aload 1, o_push (.int 2), o_aload 0, o_aload 2, o_getf 1 3, o_callV l D cid m_G_primaryOf 3 1, o_callV l D cid m_G_send 3 3] (FR l D cid m_G_takeState X 110) := by
  refine SS.cons (so_aload_n hX d_G_takeState_73 rfl) ?_
  refine SS.cons (so_aload_n hX d_G_takeState_74 rfl) ?_
  refine SS.cons (so_getf (C := R_E) (T := T_E) hX d_G_takeState_75 in_E rfl (by decide) k_250) ?_
  refine SS.cons (so_aload_n hX d_G_takeState_78 rfl) ?_
  refine SS.cons (so_getf (C := R_E) (T := T_E) hX d_G_takeState_79 in_E rfl (by decide) k_258) ?_
  refine SS.cons (so_aload_n hX d_G_takeState_82 rfl) ?_
  refine SS.cons (so_getf (C := R_P) (T := T_P) hX d_G_takeState_83 in_P rfl (by decide) k_116) ?_
  refine SS.cons (so_aload_n hX d_G_takeState_86 rfl) ?_
  refine SS.cons (so_getf (C := R_E) (T := T_E) hX d_G_takeState_87 in_E rfl (by decide) k_261) ?_
  refine SS.cons (so_callS (M' := m_J_max) hX d_G_takeState_90 k_212 k_324 k_211 k_49 pf_J_max (by decide) (by decide +kernel) ⟨by decide, by decide⟩) ?_
  refine SS.cons (so_callV (M' := m_P_becomeNormal) (T := T_P) hX d_G_takeState_93 rfl k_352 k_349 k_350 k_351 k_46 pf_P_becomeNormal (by decide) (by decide +kernel) ⟨by decide, by decide⟩) ?_
  refine SS.cons (so_aload_n hX d_G_takeState_96 rfl) ?_
  refine SS.cons (so_aload_n hX d_G_takeState_97 rfl) ?_
  refine SS.cons (so_iconst hX d_G_takeState_98 (by decide)) ?_
  refine SS.cons (so_aload_n hX d_G_takeState_99 rfl) ?_
  refine SS.cons (so_aload_n hX d_G_takeState_100 rfl) ?_
  refine SS.cons (so_getf (C := R_E) (T := T_E) hX d_G_takeState_101 in_E rfl (by decide) k_250) ?_
  refine SS.cons (so_callV (M' := m_G_primaryOf) (T := T_G) hX d_G_takeState_104 rfl k_202 k_199 k_201 k_2 k_45 pf_G_primaryOf (by decide) (by decide +kernel) ⟨by decide, by decide⟩) ?_
  refine SS.cons (so_callV (M' := m_G_send) (T := T_G) hX d_G_takeState_107 rfl k_236 k_233 k_235 k_6 k_45 pf_G_send (by decide) (by decide +kernel) ⟨by decide, by decide⟩) ?_
  exact SS.fall
theorem b_G_takeState_110 {l : Launch} {D : va_G} {cid : Nat → ClassId} {X : CT} {Post : PT} (hX : OK l D cid m_G_takeState X Post) : SS l D cid m_G_takeState X 110 [] (t_ret Post) := by
  exact st_ret hX d_G_takeState_110 rfl
abbrev m_G_startChanging : MT := (⟨"GroupLog", "startChanging", "(LGroupLog$Replica;I)V"⟩, prog_1_method_40_code, 3, (none : Option FieldType), { frames := 4, cells := 5, slots := 40, locals := 89 })
theorem pf_G_startChanging : plainFor m_G_startChanging.1 = true := by decide +kernel
theorem d_G_startChanging_0 : decode prog_1_method_40_code 0 = .ok (.aload_n 1, 1) := by decide +kernel
theorem d_G_startChanging_1 : decode prog_1_method_40_code 1 = .ok (.iconst 1, 1) := by decide +kernel
theorem d_G_startChanging_2 : decode prog_1_method_40_code 2 = .ok (.putfield 97, 3) := by decide +kernel
theorem d_G_startChanging_5 : decode prog_1_method_40_code 5 = .ok (.aload_n 1, 1) := by decide +kernel
theorem d_G_startChanging_6 : decode prog_1_method_40_code 6 = .ok (.iload_n 2, 1) := by decide +kernel
theorem d_G_startChanging_7 : decode prog_1_method_40_code 7 = .ok (.putfield 100, 3) := by decide +kernel
theorem d_G_startChanging_10 : decode prog_1_method_40_code 10 = .ok (.aload_n 1, 1) := by decide +kernel
theorem d_G_startChanging_11 : decode prog_1_method_40_code 11 = .ok (.invokevirtual 230, 3) := by decide +kernel
theorem d_G_startChanging_14 : decode prog_1_method_40_code 14 = .ok (.aload_n 1, 1) := by decide +kernel
theorem d_G_startChanging_15 : decode prog_1_method_40_code 15 = .ok (.iconst 0, 1) := by decide +kernel
theorem d_G_startChanging_16 : decode prog_1_method_40_code 16 = .ok (.putfield 233, 3) := by decide +kernel
theorem d_G_startChanging_19 : decode prog_1_method_40_code 19 = .ok (.aload_n 0, 1) := by decide +kernel
theorem d_G_startChanging_20 : decode prog_1_method_40_code 20 = .ok (.aload_n 1, 1) := by decide +kernel
theorem d_G_startChanging_21 : decode prog_1_method_40_code 21 = .ok (.iconst 5, 1) := by decide +kernel
theorem d_G_startChanging_22 : decode prog_1_method_40_code 22 = .ok (.invokevirtual 79, 3) := by decide +kernel
theorem d_G_startChanging_25 : decode prog_1_method_40_code 25 = .ok (.return_, 1) := by decide +kernel
theorem b_G_startChanging_0 {l : Launch} {D : va_G} {cid : Nat → ClassId} {X : CT} {Post : PT} (hX : OK l D cid m_G_startChanging X Post) : SS l D cid m_G_startChanging X 0 [o_aload 1, o_push (.int 1), o_put okI 2 1, o_aload 1, o_iload 2, o_put okI 2 2, o_aload 1, o_callV l D cid m_P_forgetKept 2 0, o_aload 1, o_push (.int 0), o_put okZ 2 8, o_aload 0, o_aload 1, o_push (.int 5), o_callV l D cid m_G_sendToAll 3 2] (t_ret Post) := by
  refine SS.cons (so_aload_n hX d_G_startChanging_0 rfl) ?_
  refine SS.cons (so_iconst hX d_G_startChanging_1 (by decide)) ?_
  refine SS.cons (so_put (C := R_P) (T := T_P) ok_I hX d_G_startChanging_2 in_P ty_P nm_P rfl (by decide) k_105 rfl rfl) ?_
  refine SS.cons (so_aload_n hX d_G_startChanging_5 rfl) ?_
  refine SS.cons (so_iload_n hX d_G_startChanging_6 rfl) ?_
  refine SS.cons (so_put (C := R_P) (T := T_P) ok_I hX d_G_startChanging_7 in_P ty_P nm_P rfl (by decide) k_108 rfl rfl) ?_
  refine SS.cons (so_aload_n hX d_G_startChanging_10 rfl) ?_
  refine SS.cons (so_callV (M' := m_P_forgetKept) (T := T_P) hX d_G_startChanging_11 rfl k_356 k_365 k_354 k_355 k_46 pf_P_forgetKept (by decide) (by decide +kernel) ⟨by decide, by decide⟩) ?_
  refine SS.cons (so_aload_n hX d_G_startChanging_14 rfl) ?_
  refine SS.cons (so_iconst hX d_G_startChanging_15 (by decide)) ?_
  refine SS.cons (so_put (C := R_P) (T := T_P) ok_Z hX d_G_startChanging_16 in_P ty_P nm_P rfl (by decide) k_123 rfl rfl) ?_
  refine SS.cons (so_aload_n hX d_G_startChanging_19 rfl) ?_
  refine SS.cons (so_aload_n hX d_G_startChanging_20 rfl) ?_
  refine SS.cons (so_iconst hX d_G_startChanging_21 (by decide)) ?_
  refine SS.cons (so_callV (M' := m_G_sendToAll) (T := T_G) hX d_G_startChanging_22 rfl k_232 k_229 k_231 k_5 k_45 pf_G_sendToAll (by decide) (by decide +kernel) ⟨by decide, by decide⟩) ?_
  exact st_ret hX d_G_startChanging_25 rfl
abbrev m_G_joinChange : MT := (⟨"GroupLog", "joinChange", "(LGroupLog$Replica;LGroupLog$Message;)Z"⟩, prog_1_method_41_code, 3, (some FieldType.boolean), { frames := 5, cells := 5, slots := 40, locals := 111 })
theorem pf_G_joinChange : plainFor m_G_joinChange.1 = true := by decide +kernel
theorem d_G_joinChange_0 : decode prog_1_method_41_code 0 = .ok (.aload_n 2, 1) := by decide +kernel
theorem d_G_joinChange_1 : decode prog_1_method_41_code 1 = .ok (.getfield 157, 3) := by decide +kernel
theorem d_G_joinChange_4 : decode prog_1_method_41_code 4 = .ok (.aload_n 1, 1) := by decide +kernel
theorem d_G_joinChange_5 : decode prog_1_method_41_code 5 = .ok (.getfield 100, 3) := by decide +kernel
theorem d_G_joinChange_8 : decode prog_1_method_41_code 8 = .ok (.if_icmp .le 12, 3) := by decide +kernel
theorem d_G_joinChange_11 : decode prog_1_method_41_code 11 = .ok (.aload_n 0, 1) := by decide +kernel
theorem d_G_joinChange_12 : decode prog_1_method_41_code 12 = .ok (.aload_n 1, 1) := by decide +kernel
theorem d_G_joinChange_13 : decode prog_1_method_41_code 13 = .ok (.aload_n 2, 1) := by decide +kernel
theorem d_G_joinChange_14 : decode prog_1_method_41_code 14 = .ok (.getfield 157, 3) := by decide +kernel
theorem d_G_joinChange_17 : decode prog_1_method_41_code 17 = .ok (.invokevirtual 103, 3) := by decide +kernel
theorem d_G_joinChange_20 : decode prog_1_method_41_code 20 = .ok (.aload_n 2, 1) := by decide +kernel
theorem d_G_joinChange_21 : decode prog_1_method_41_code 21 = .ok (.getfield 157, 3) := by decide +kernel
theorem d_G_joinChange_24 : decode prog_1_method_41_code 24 = .ok (.aload_n 1, 1) := by decide +kernel
theorem d_G_joinChange_25 : decode prog_1_method_41_code 25 = .ok (.getfield 100, 3) := by decide +kernel
theorem d_G_joinChange_28 : decode prog_1_method_41_code 28 = .ok (.if_icmp .ne 15, 3) := by decide +kernel
theorem d_G_joinChange_31 : decode prog_1_method_41_code 31 = .ok (.aload_n 1, 1) := by decide +kernel
theorem d_G_joinChange_32 : decode prog_1_method_41_code 32 = .ok (.getfield 97, 3) := by decide +kernel
theorem d_G_joinChange_35 : decode prog_1_method_41_code 35 = .ok (.iconst 1, 1) := by decide +kernel
theorem d_G_joinChange_36 : decode prog_1_method_41_code 36 = .ok (.if_icmp .ne 7, 3) := by decide +kernel
theorem d_G_joinChange_39 : decode prog_1_method_41_code 39 = .ok (.iconst 1, 1) := by decide +kernel
theorem d_G_joinChange_40 : decode prog_1_method_41_code 40 = .ok (.goto 4, 3) := by decide +kernel
theorem d_G_joinChange_43 : decode prog_1_method_41_code 43 = .ok (.iconst 0, 1) := by decide +kernel
theorem d_G_joinChange_44 : decode prog_1_method_41_code 44 = .ok (.ireturn, 1) := by decide +kernel
theorem b_G_joinChange_0 {l : Launch} {D : va_G} {cid : Nat → ClassId} {X : CT} {Post : PT} (hX : OK l D cid m_G_joinChange X Post) : SS l D cid m_G_joinChange X 0 [o_aload 2, o_getf 1 3, o_aload 1, o_getf 2 2] (t_cmp (fun x y => x ≤ y) (FR l D cid m_G_joinChange X 20) (FR l D cid m_G_joinChange X 11)) := by
  refine SS.cons (so_aload_n hX d_G_joinChange_0 rfl) ?_
  refine SS.cons (so_getf (C := R_E) (T := T_E) hX d_G_joinChange_1 in_E rfl (by decide) k_250) ?_
  refine SS.cons (so_aload_n hX d_G_joinChange_4 rfl) ?_
  refine SS.cons (so_getf (C := R_P) (T := T_P) hX d_G_joinChange_5 in_P rfl (by decide) k_108) ?_
  exact st_icmp_le hX d_G_joinChange_8 (by decide)
theorem b_G_joinChange_11 {l : Launch} {D : va_G} {cid : Nat → ClassId} {X : CT} {Post : PT} (hX : OK l D cid m_G_joinChange X Post) : SS l D cid m_G_joinChange X 11 [o_aload 0, o_aload 1, o_aload 2, o_getf 1 3, o_callV l D cid m_G_startChanging 3 2] (FR l D cid m_G_joinChange X 20) := by
  refine SS.cons (so_aload_n hX d_G_joinChange_11 rfl) ?_
  refine SS.cons (so_aload_n hX d_G_joinChange_12 rfl) ?_
  refine SS.cons (so_aload_n hX d_G_joinChange_13 rfl) ?_
  refine SS.cons (so_getf (C := R_E) (T := T_E) hX d_G_joinChange_14 in_E rfl (by decide) k_250) ?_
  refine SS.cons (so_callV (M' := m_G_startChanging) (T := T_G) hX d_G_joinChange_17 rfl k_364 k_361 k_363 k_16 k_45 pf_G_startChanging (by decide) (by decide +kernel) ⟨by decide, by decide⟩) ?_
  exact SS.fall
theorem b_G_joinChange_20 {l : Launch} {D : va_G} {cid : Nat → ClassId} {X : CT} {Post : PT} (hX : OK l D cid m_G_joinChange X Post) : SS l D cid m_G_joinChange X 20 [o_aload 2, o_getf 1 3, o_aload 1, o_getf 2 2] (t_cmp (fun x y => ¬ x = y) (FR l D cid m_G_joinChange X 43) (FR l D cid m_G_joinChange X 31)) := by
  refine SS.cons (so_aload_n hX d_G_joinChange_20 rfl) ?_
  refine SS.cons (so_getf (C := R_E) (T := T_E) hX d_G_joinChange_21 in_E rfl (by decide) k_250) ?_
  refine SS.cons (so_aload_n hX d_G_joinChange_24 rfl) ?_
  refine SS.cons (so_getf (C := R_P) (T := T_P) hX d_G_joinChange_25 in_P rfl (by decide) k_108) ?_
  exact st_icmp_ne hX d_G_joinChange_28 (by decide)
theorem b_G_joinChange_31 {l : Launch} {D : va_G} {cid : Nat → ClassId} {X : CT} {Post : PT} (hX : OK l D cid m_G_joinChange X Post) : SS l D cid m_G_joinChange X 31 [o_aload 1, o_getf 2 1, o_push (.int 1)] (t_cmp (fun x y => ¬ x = y) (FR l D cid m_G_joinChange X 43) (FR l D cid m_G_joinChange X 39)) := by
  refine SS.cons (so_aload_n hX d_G_joinChange_31 rfl) ?_
  refine SS.cons (so_getf (C := R_P) (T := T_P) hX d_G_joinChange_32 in_P rfl (by decide) k_105) ?_
  refine SS.cons (so_iconst hX d_G_joinChange_35 (by decide)) ?_
  exact st_icmp_ne hX d_G_joinChange_36 (by decide)
theorem b_G_joinChange_39 {l : Launch} {D : va_G} {cid : Nat → ClassId} {X : CT} {Post : PT} (hX : OK l D cid m_G_joinChange X Post) : SS l D cid m_G_joinChange X 39 [o_push (.int 1)] (FR l D cid m_G_joinChange X 44) := by
  refine SS.cons (so_iconst hX d_G_joinChange_39 (by decide)) ?_
  exact so_goto hX d_G_joinChange_40 (by decide)
theorem b_G_joinChange_43 {l : Launch} {D : va_G} {cid : Nat → ClassId} {X : CT} {Post : PT} (hX : OK l D cid m_G_joinChange X Post) : SS l D cid m_G_joinChange X 43 [o_push (.int 0)] (FR l D cid m_G_joinChange X 44) := by
  refine SS.cons (so_iconst hX d_G_joinChange_43 (by decide)) ?_
  exact SS.fall
theorem b_G_joinChange_44 {l : Launch} {D : va_G} {cid : Nat → ClassId} {X : CT} {Post : PT} (hX : OK l D cid m_G_joinChange X Post) : SS l D cid m_G_joinChange X 44 [] (t_zret Post) := by
  exact st_zret hX d_G_joinChange_44 rfl
abbrev m_G_keepVote : MT := (⟨"GroupLog", "keepVote", "(LGroupLog$Replica;LGroupLog$Message;)V"⟩, prog_1_method_42_code, 4, (none : Option FieldType), { frames := 3, cells := 1, slots := 8, locals := 66 })
theorem pf_G_keepVote : plainFor m_G_keepVote.1 = true := by decide +kernel
theorem d_G_keepVote_0 : decode prog_1_method_42_code 0 = .ok (.aload_n 1, 1) := by decide +kernel
theorem d_G_keepVote_1 : decode prog_1_method_42_code 1 = .ok (.getfield 237, 3) := by decide +kernel
theorem d_G_keepVote_4 : decode prog_1_method_42_code 4 = .ok (.aload_n 2, 1) := by decide +kernel
theorem d_G_keepVote_5 : decode prog_1_method_42_code 5 = .ok (.getfield 151, 3) := by decide +kernel
theorem d_G_keepVote_8 : decode prog_1_method_42_code 8 = .ok (.aload_n 2, 1) := by decide +kernel
theorem d_G_keepVote_9 : decode prog_1_method_42_code 9 = .ok (.aastore, 1) := by decide +kernel
theorem d_G_keepVote_10 : decode prog_1_method_42_code 10 = .ok (.aload_n 0, 1) := by decide +kernel
theorem d_G_keepVote_11 : decode prog_1_method_42_code 11 = .ok (.aload_n 1, 1) := by decide +kernel
theorem d_G_keepVote_12 : decode prog_1_method_42_code 12 = .ok (.getfield 100, 3) := by decide +kernel
theorem d_G_keepVote_15 : decode prog_1_method_42_code 15 = .ok (.invokevirtual 161, 3) := by decide +kernel
theorem d_G_keepVote_18 : decode prog_1_method_42_code 18 = .ok (.istore_n 3, 1) := by decide +kernel
theorem d_G_keepVote_19 : decode prog_1_method_42_code 19 = .ok (.aload_n 1, 1) := by decide +kernel
theorem d_G_keepVote_20 : decode prog_1_method_42_code 20 = .ok (.getfield 122, 3) := by decide +kernel
theorem d_G_keepVote_23 : decode prog_1_method_42_code 23 = .ok (.iload_n 3, 1) := by decide +kernel
theorem d_G_keepVote_24 : decode prog_1_method_42_code 24 = .ok (.if_icmp .eq 37, 3) := by decide +kernel
theorem d_G_keepVote_27 : decode prog_1_method_42_code 27 = .ok (.aload_n 1, 1) := by decide +kernel
theorem d_G_keepVote_28 : decode prog_1_method_42_code 28 = .ok (.getfield 233, 3) := by decide +kernel
theorem d_G_keepVote_31 : decode prog_1_method_42_code 31 = .ok (.ifCond .ne 30, 3) := by decide +kernel
theorem d_G_keepVote_34 : decode prog_1_method_42_code 34 = .ok (.aload_n 1, 1) := by decide +kernel
theorem d_G_keepVote_35 : decode prog_1_method_42_code 35 = .ok (.getfield 237, 3) := by decide +kernel
theorem d_G_keepVote_38 : decode prog_1_method_42_code 38 = .ok (.invokestatic 240, 3) := by decide +kernel
theorem d_G_keepVote_41 : decode prog_1_method_42_code 41 = .ok (.aload_n 0, 1) := by decide +kernel
theorem d_G_keepVote_42 : decode prog_1_method_42_code 42 = .ok (.getfield 32, 3) := by decide +kernel
theorem d_G_keepVote_45 : decode prog_1_method_42_code 45 = .ok (.if_icmp .lt 16, 3) := by decide +kernel
theorem d_G_keepVote_48 : decode prog_1_method_42_code 48 = .ok (.aload_n 0, 1) := by decide +kernel
theorem d_G_keepVote_49 : decode prog_1_method_42_code 49 = .ok (.aload_n 1, 1) := by decide +kernel
theorem d_G_keepVote_50 : decode prog_1_method_42_code 50 = .ok (.bipush 6, 2) := by decide +kernel
theorem d_G_keepVote_52 : decode prog_1_method_42_code 52 = .ok (.iload_n 3, 1) := by decide +kernel
theorem d_G_keepVote_53 : decode prog_1_method_42_code 53 = .ok (.invokevirtual 171, 3) := by decide +kernel
theorem d_G_keepVote_56 : decode prog_1_method_42_code 56 = .ok (.aload_n 1, 1) := by decide +kernel
theorem d_G_keepVote_57 : decode prog_1_method_42_code 57 = .ok (.iconst 1, 1) := by decide +kernel
theorem d_G_keepVote_58 : decode prog_1_method_42_code 58 = .ok (.putfield 233, 3) := by decide +kernel
theorem d_G_keepVote_61 : decode prog_1_method_42_code 61 = .ok (.return_, 1) := by decide +kernel
theorem b_G_keepVote_0 {l : Launch} {D : va_G} {cid : Nat → ClassId} {X : CT} {Post : PT} (hX : OK l D cid m_G_keepVote X Post) : SS l D cid m_G_keepVote X 0 [o_aload 1, o_getf 2 9, o_aload 2, o_getf 1 1, o_aload 2, o_astq 2 1, o_aload 0, o_aload 1, o_getf 2 2, o_callV l D cid m_G_primaryOf 3 1, o_istore 3, o_aload 1, o_getf 2 0, o_iload 3] (t_cmp (fun x y => x = y) (FR l D cid m_G_keepVote X 61) (FR l D cid m_G_keepVote X 27)) := by
  refine SS.cons (so_aload_n hX d_G_keepVote_0 rfl) ?_
  refine SS.cons (so_getf (C := R_P) (T := T_P) hX d_G_keepVote_1 in_P rfl (by decide) k_125) ?_
  refine SS.cons (so_aload_n hX d_G_keepVote_4 rfl) ?_
  refine SS.cons (so_getf (C := R_E) (T := T_E) hX d_G_keepVote_5 in_E rfl (by decide) k_245) ?_
  refine SS.cons (so_aload_n hX d_G_keepVote_8 rfl) ?_
  refine SS.cons (so_astq (r0 := (R_E, T_E, 8)) hX d_G_keepVote_9 rfl rfl) ?_
  refine SS.cons (so_aload_n hX d_G_keepVote_10 rfl) ?_
  refine SS.cons (so_aload_n hX d_G_keepVote_11 rfl) ?_
  refine SS.cons (so_getf (C := R_P) (T := T_P) hX d_G_keepVote_12 in_P rfl (by decide) k_108) ?_
  refine SS.cons (so_callV (M' := m_G_primaryOf) (T := T_G) hX d_G_keepVote_15 rfl k_202 k_199 k_201 k_2 k_45 pf_G_primaryOf (by decide) (by decide +kernel) ⟨by decide, by decide⟩) ?_
  refine SS.cons (so_istore_n hX d_G_keepVote_18 rfl (by decide)) ?_
  refine SS.cons (so_aload_n hX d_G_keepVote_19 rfl) ?_
  refine SS.cons (so_getf (C := R_P) (T := T_P) hX d_G_keepVote_20 in_P rfl (by decide) k_103) ?_
  refine SS.cons (so_iload_n hX d_G_keepVote_23 rfl) ?_
  exact st_icmp_eq hX d_G_keepVote_24 (by decide)
theorem b_G_keepVote_27 {l : Launch} {D : va_G} {cid : Nat → ClassId} {X : CT} {Post : PT} (hX : OK l D cid m_G_keepVote X Post) : SS l D cid m_G_keepVote X 27 [o_aload 1, o_getf 2 8] (t_if (fun x => ¬ x = 0) (FR l D cid m_G_keepVote X 61) (FR l D cid m_G_keepVote X 34)) := by
  refine SS.cons (so_aload_n hX d_G_keepVote_27 rfl) ?_
  refine SS.cons (so_getf (C := R_P) (T := T_P) hX d_G_keepVote_28 in_P rfl (by decide) k_123) ?_
  exact st_if_ne hX d_G_keepVote_31 (by decide)
theorem b_G_keepVote_34 {l : Launch} {D : va_G} {cid : Nat → ClassId} {X : CT} {Post : PT} (hX : OK l D cid m_G_keepVote X Post) : SS l D cid m_G_keepVote X 34 [o_aload 1, o_getf 2 9, o_callS l D cid m_P_count 1, o_aload 0, o_getf 3 1] (t_cmp (fun x y => x < y) (FR l D cid m_G_keepVote X 61) (FR l D cid m_G_keepVote X 48)) := by
  refine SS.cons (so_aload_n hX d_G_keepVote_34 rfl) ?_
  refine SS.cons (so_getf (C := R_P) (T := T_P) hX d_G_keepVote_35 in_P rfl (by decide) k_125) ?_
  refine SS.cons (so_callS (M' := m_P_count) hX d_G_keepVote_38 k_372 k_370 k_371 k_46 pf_P_count (by decide) (by decide +kernel) ⟨by decide, by decide⟩) ?_
  refine SS.cons (so_aload_n hX d_G_keepVote_41 rfl) ?_
  refine SS.cons (so_getf (C := R_G) (T := T_G) hX d_G_keepVote_42 in_G rfl (by decide) k_160) ?_
  exact st_icmp_lt hX d_G_keepVote_45 (by decide)
theorem b_G_keepVote_48 {l : Launch} {D : va_G} {cid : Nat → ClassId} {X : CT} {Post : PT} (hX : OK l D cid m_G_keepVote X Post) : SS l D cid m_G_keepVote X 48 [o_aload 0, o_aload 1, o_push (.int 6), o_iload 3, o_callV l D cid m_G_send 3 3, o_aload 1, o_push (.int 1), o_put okZ 2 8] (FR l D cid m_G_keepVote X 61) := by
  refine SS.cons (so_aload_n hX d_G_keepVote_48 rfl) ?_
  refine SS.cons (so_aload_n hX d_G_keepVote_49 rfl) ?_
  refine SS.cons (so_bipush hX d_G_keepVote_50 (by decide)) ?_
  refine SS.cons (so_iload_n hX d_G_keepVote_52 rfl) ?_
  refine SS.cons (so_callV (M' := m_G_send) (T := T_G) hX d_G_keepVote_53 rfl k_236 k_233 k_235 k_6 k_45 pf_G_send (by decide) (by decide +kernel) ⟨by decide, by decide⟩) ?_
  refine SS.cons (so_aload_n hX d_G_keepVote_56 rfl) ?_
  refine SS.cons (so_iconst hX d_G_keepVote_57 (by decide)) ?_
  refine SS.cons (so_put (C := R_P) (T := T_P) ok_Z hX d_G_keepVote_58 in_P ty_P nm_P rfl (by decide) k_123 rfl rfl) ?_
  exact SS.fall
theorem b_G_keepVote_61 {l : Launch} {D : va_G} {cid : Nat → ClassId} {X : CT} {Post : PT} (hX : OK l D cid m_G_keepVote X Post) : SS l D cid m_G_keepVote X 61 [] (t_ret Post) := by
  exact st_ret hX d_G_keepVote_61 rfl
abbrev m_G_keepPaper : MT := (⟨"GroupLog", "keepPaper", "(LGroupLog$Replica;LGroupLog$Message;)V"⟩, prog_1_method_43_code, 3, (none : Option FieldType), { frames := 4, cells := 5, slots := 40, locals := 89 })
theorem pf_G_keepPaper : plainFor m_G_keepPaper.1 = true := by decide +kernel
theorem d_G_keepPaper_0 : decode prog_1_method_43_code 0 = .ok (.aload_n 1, 1) := by decide +kernel
theorem d_G_keepPaper_1 : decode prog_1_method_43_code 1 = .ok (.getfield 244, 3) := by decide +kernel
theorem d_G_keepPaper_4 : decode prog_1_method_43_code 4 = .ok (.aload_n 2, 1) := by decide +kernel
theorem d_G_keepPaper_5 : decode prog_1_method_43_code 5 = .ok (.getfield 151, 3) := by decide +kernel
theorem d_G_keepPaper_8 : decode prog_1_method_43_code 8 = .ok (.aload_n 2, 1) := by decide +kernel
theorem d_G_keepPaper_9 : decode prog_1_method_43_code 9 = .ok (.aastore, 1) := by decide +kernel
theorem d_G_keepPaper_10 : decode prog_1_method_43_code 10 = .ok (.aload_n 1, 1) := by decide +kernel
theorem d_G_keepPaper_11 : decode prog_1_method_43_code 11 = .ok (.getfield 244, 3) := by decide +kernel
theorem d_G_keepPaper_14 : decode prog_1_method_43_code 14 = .ok (.invokestatic 240, 3) := by decide +kernel
theorem d_G_keepPaper_17 : decode prog_1_method_43_code 17 = .ok (.aload_n 0, 1) := by decide +kernel
theorem d_G_keepPaper_18 : decode prog_1_method_43_code 18 = .ok (.getfield 32, 3) := by decide +kernel
theorem d_G_keepPaper_21 : decode prog_1_method_43_code 21 = .ok (.if_icmp .lt 13, 3) := by decide +kernel
theorem d_G_keepPaper_24 : decode prog_1_method_43_code 24 = .ok (.aload_n 1, 1) := by decide +kernel
theorem d_G_keepPaper_25 : decode prog_1_method_43_code 25 = .ok (.invokevirtual 247, 3) := by decide +kernel
theorem d_G_keepPaper_28 : decode prog_1_method_43_code 28 = .ok (.aload_n 0, 1) := by decide +kernel
theorem d_G_keepPaper_29 : decode prog_1_method_43_code 29 = .ok (.aload_n 1, 1) := by decide +kernel
theorem d_G_keepPaper_30 : decode prog_1_method_43_code 30 = .ok (.iconst 4, 1) := by decide +kernel
theorem d_G_keepPaper_31 : decode prog_1_method_43_code 31 = .ok (.invokevirtual 79, 3) := by decide +kernel
theorem d_G_keepPaper_34 : decode prog_1_method_43_code 34 = .ok (.return_, 1) := by decide +kernel
theorem b_G_keepPaper_0 {l : Launch} {D : va_G} {cid : Nat → ClassId} {X : CT} {Post : PT} (hX : OK l D cid m_G_keepPaper X Post) : SS l D cid m_G_keepPaper X 0 [o_aload 1, o_getf 2 10, o_aload 2, o_getf 1 1, o_aload 2, o_astq 2 1, o_aload 1, o_getf 2 10, o_callS l D cid m_P_count 1, o_aload 0, o_getf 3 1] (t_cmp (fun x y => x < y) (FR l D cid m_G_keepPaper X 34) (FR l D cid m_G_keepPaper X 24)) := by
  refine SS.cons (so_aload_n hX d_G_keepPaper_0 rfl) ?_
  refine SS.cons (so_getf (C := R_P) (T := T_P) hX d_G_keepPaper_1 in_P rfl (by decide) k_127) ?_
  refine SS.cons (so_aload_n hX d_G_keepPaper_4 rfl) ?_
  refine SS.cons (so_getf (C := R_E) (T := T_E) hX d_G_keepPaper_5 in_E rfl (by decide) k_245) ?_
  refine SS.cons (so_aload_n hX d_G_keepPaper_8 rfl) ?_
  refine SS.cons (so_astq (r0 := (R_E, T_E, 8)) hX d_G_keepPaper_9 rfl rfl) ?_
  refine SS.cons (so_aload_n hX d_G_keepPaper_10 rfl) ?_
  refine SS.cons (so_getf (C := R_P) (T := T_P) hX d_G_keepPaper_11 in_P rfl (by decide) k_127) ?_
  refine SS.cons (so_callS (M' := m_P_count) hX d_G_keepPaper_14 k_372 k_370 k_371 k_46 pf_P_count (by decide) (by decide +kernel) ⟨by decide, by decide⟩) ?_
  refine SS.cons (so_aload_n hX d_G_keepPaper_17 rfl) ?_
  refine SS.cons (so_getf (C := R_G) (T := T_G) hX d_G_keepPaper_18 in_G rfl (by decide) k_160) ?_
  exact st_icmp_lt hX d_G_keepPaper_21 (by decide)
theorem b_G_keepPaper_24 {l : Launch} {D : va_G} {cid : Nat → ClassId} {X : CT} {Post : PT} (hX : OK l D cid m_G_keepPaper X Post) : SS l D cid m_G_keepPaper X 24 [o_aload 1, o_callV l D cid m_P_becomePrimary 2 0, o_aload 0, o_aload 1, o_push (.int 4), o_callV l D cid m_G_sendToAll 3 2] (FR l D cid m_G_keepPaper X 34) := by
  refine SS.cons (so_aload_n hX d_G_keepPaper_24 rfl) ?_
  refine SS.cons (so_callV (M' := m_P_becomePrimary) (T := T_P) hX d_G_keepPaper_25 rfl k_380 k_377 k_378 k_379 k_46 pf_P_becomePrimary (by decide) (by decide +kernel) ⟨by decide, by decide⟩) ?_
  refine SS.cons (so_aload_n hX d_G_keepPaper_28 rfl) ?_
  refine SS.cons (so_aload_n hX d_G_keepPaper_29 rfl) ?_
  refine SS.cons (so_iconst hX d_G_keepPaper_30 (by decide)) ?_
  refine SS.cons (so_callV (M' := m_G_sendToAll) (T := T_G) hX d_G_keepPaper_31 rfl k_232 k_229 k_231 k_5 k_45 pf_G_sendToAll (by decide) (by decide +kernel) ⟨by decide, by decide⟩) ?_
  exact SS.fall
theorem b_G_keepPaper_34 {l : Launch} {D : va_G} {cid : Nat → ClassId} {X : CT} {Post : PT} (hX : OK l D cid m_G_keepPaper X Post) : SS l D cid m_G_keepPaper X 34 [] (t_ret Post) := by
  exact st_ret hX d_G_keepPaper_34 rfl
abbrev m_G_keepResponse : MT := (⟨"GroupLog", "keepResponse", "(LGroupLog$Replica;LGroupLog$Message;)V"⟩, prog_1_method_44_code, 5, (none : Option FieldType), { frames := 2, cells := 0, slots := 0, locals := 44 })
theorem pf_G_keepResponse : plainFor m_G_keepResponse.1 = true := by decide +kernel
theorem d_G_keepResponse_0 : decode prog_1_method_44_code 0 = .ok (.aload_n 1, 1) := by decide +kernel
theorem d_G_keepResponse_1 : decode prog_1_method_44_code 1 = .ok (.getfield 250, 3) := by decide +kernel
theorem d_G_keepResponse_4 : decode prog_1_method_44_code 4 = .ok (.aload_n 2, 1) := by decide +kernel
theorem d_G_keepResponse_5 : decode prog_1_method_44_code 5 = .ok (.getfield 151, 3) := by decide +kernel
theorem d_G_keepResponse_8 : decode prog_1_method_44_code 8 = .ok (.aload_n 2, 1) := by decide +kernel
theorem d_G_keepResponse_9 : decode prog_1_method_44_code 9 = .ok (.aastore, 1) := by decide +kernel
theorem d_G_keepResponse_10 : decode prog_1_method_44_code 10 = .ok (.aload_n 1, 1) := by decide +kernel
theorem d_G_keepResponse_11 : decode prog_1_method_44_code 11 = .ok (.getfield 250, 3) := by decide +kernel
theorem d_G_keepResponse_14 : decode prog_1_method_44_code 14 = .ok (.invokestatic 240, 3) := by decide +kernel
theorem d_G_keepResponse_17 : decode prog_1_method_44_code 17 = .ok (.aload_n 0, 1) := by decide +kernel
theorem d_G_keepResponse_18 : decode prog_1_method_44_code 18 = .ok (.getfield 32, 3) := by decide +kernel
theorem d_G_keepResponse_21 : decode prog_1_method_44_code 21 = .ok (.if_icmp .gt 4, 3) := by decide +kernel
theorem d_G_keepResponse_24 : decode prog_1_method_44_code 24 = .ok (.return_, 1) := by decide +kernel
theorem d_G_keepResponse_25 : decode prog_1_method_44_code 25 = .ok (.aload_n 1, 1) := by decide +kernel
theorem d_G_keepResponse_26 : decode prog_1_method_44_code 26 = .ok (.getfield 250, 3) := by decide +kernel
theorem d_G_keepResponse_29 : decode prog_1_method_44_code 29 = .ok (.invokestatic 253, 3) := by decide +kernel
theorem d_G_keepResponse_32 : decode prog_1_method_44_code 32 = .ok (.istore_n 3, 1) := by decide +kernel
theorem d_G_keepResponse_33 : decode prog_1_method_44_code 33 = .ok (.aload_n 1, 1) := by decide +kernel
theorem d_G_keepResponse_34 : decode prog_1_method_44_code 34 = .ok (.getfield 250, 3) := by decide +kernel
theorem d_G_keepResponse_37 : decode prog_1_method_44_code 37 = .ok (.aload_n 0, 1) := by decide +kernel
theorem d_G_keepResponse_38 : decode prog_1_method_44_code 38 = .ok (.iload_n 3, 1) := by decide +kernel
theorem d_G_keepResponse_39 : decode prog_1_method_44_code 39 = .ok (.invokevirtual 161, 3) := by decide +kernel
theorem d_G_keepResponse_42 : decode prog_1_method_44_code 42 = .ok (.aaload, 1) := by decide +kernel
theorem d_G_keepResponse_43 : decode prog_1_method_44_code 43 = .ok (.astore 4, 2) := by decide +kernel
theorem d_G_keepResponse_45 : decode prog_1_method_44_code 45 = .ok (.aload 4, 2) := by decide +kernel
theorem d_G_keepResponse_47 : decode prog_1_method_44_code 47 = .ok (.ifnull 27, 3) := by decide +kernel
theorem d_G_keepResponse_50 : decode prog_1_method_44_code 50 = .ok (.aload 4, 2) := by decide +kernel
theorem d_G_keepResponse_52 : decode prog_1_method_44_code 52 = .ok (.getfield 157, 3) := by decide +kernel
theorem d_G_keepResponse_55 : decode prog_1_method_44_code 55 = .ok (.iload_n 3, 1) := by decide +kernel
theorem d_G_keepResponse_56 : decode prog_1_method_44_code 56 = .ok (.if_icmp .ne 18, 3) := by decide +kernel
theorem d_G_keepResponse_59 : decode prog_1_method_44_code 59 = .ok (.aload_n 1, 1) := by decide +kernel
theorem d_G_keepResponse_60 : decode prog_1_method_44_code 60 = .ok (.iload_n 3, 1) := by decide +kernel
theorem d_G_keepResponse_61 : decode prog_1_method_44_code 61 = .ok (.aload 4, 2) := by decide +kernel
theorem d_G_keepResponse_63 : decode prog_1_method_44_code 63 = .ok (.getfield 215, 3) := by decide +kernel
theorem d_G_keepResponse_66 : decode prog_1_method_44_code 66 = .ok (.aload 4, 2) := by decide +kernel
theorem d_G_keepResponse_68 : decode prog_1_method_44_code 68 = .ok (.getfield 216, 3) := by decide +kernel
theorem d_G_keepResponse_71 : decode prog_1_method_44_code 71 = .ok (.invokevirtual 226, 3) := by decide +kernel
theorem d_G_keepResponse_74 : decode prog_1_method_44_code 74 = .ok (.return_, 1) := by decide +kernel
theorem b_G_keepResponse_0 {l : Launch} {D : va_G} {cid : Nat → ClassId} {X : CT} {Post : PT} (hX : OK l D cid m_G_keepResponse X Post) : SS l D cid m_G_keepResponse X 0 [o_aload 1, o_getf 2 11, o_aload 2, o_getf 1 1, o_aload 2, o_astq 2 1, o_aload 1, o_getf 2 11, o_callS l D cid m_P_count 1, o_aload 0, o_getf 3 1] (t_cmp (fun x y => y < x) (FR l D cid m_G_keepResponse X 25) (FR l D cid m_G_keepResponse X 24)) := by
  refine SS.cons (so_aload_n hX d_G_keepResponse_0 rfl) ?_
  refine SS.cons (so_getf (C := R_P) (T := T_P) hX d_G_keepResponse_1 in_P rfl (by decide) k_129) ?_
  refine SS.cons (so_aload_n hX d_G_keepResponse_4 rfl) ?_
  refine SS.cons (so_getf (C := R_E) (T := T_E) hX d_G_keepResponse_5 in_E rfl (by decide) k_245) ?_
  refine SS.cons (so_aload_n hX d_G_keepResponse_8 rfl) ?_
  refine SS.cons (so_astq (r0 := (R_E, T_E, 8)) hX d_G_keepResponse_9 rfl rfl) ?_
  refine SS.cons (so_aload_n hX d_G_keepResponse_10 rfl) ?_
  refine SS.cons (so_getf (C := R_P) (T := T_P) hX d_G_keepResponse_11 in_P rfl (by decide) k_129) ?_
  refine SS.cons (so_callS (M' := m_P_count) hX d_G_keepResponse_14 k_372 k_370 k_371 k_46 pf_P_count (by decide) (by decide +kernel) ⟨by decide, by decide⟩) ?_
  refine SS.cons (so_aload_n hX d_G_keepResponse_17 rfl) ?_
  refine SS.cons (so_getf (C := R_G) (T := T_G) hX d_G_keepResponse_18 in_G rfl (by decide) k_160) ?_
  exact st_icmp_gt hX d_G_keepResponse_21 (by decide)
theorem b_G_keepResponse_24 {l : Launch} {D : va_G} {cid : Nat → ClassId} {X : CT} {Post : PT} (hX : OK l D cid m_G_keepResponse X Post) : SS l D cid m_G_keepResponse X 24 [] (t_ret Post) := by
  exact st_ret hX d_G_keepResponse_24 rfl
theorem b_G_keepResponse_25 {l : Launch} {D : va_G} {cid : Nat → ClassId} {X : CT} {Post : PT} (hX : OK l D cid m_G_keepResponse X Post) : SS l D cid m_G_keepResponse X 25 [o_aload 1, o_getf 2 11, o_callS l D cid m_P_greatestView 1, o_istore 3, o_aload 1, o_getf 2 11, o_aload 0, o_iload 3, o_callV l D cid m_G_primaryOf 3 1, o_aldq 2, o_astore 4, o_aload 4] (t_null (FR l D cid m_G_keepResponse X 74) (FR l D cid m_G_keepResponse X 50)) := by
  refine SS.cons (so_aload_n hX d_G_keepResponse_25 rfl) ?_
  refine SS.cons (so_getf (C := R_P) (T := T_P) hX d_G_keepResponse_26 in_P rfl (by decide) k_129) ?_
  refine SS.cons (so_callS (M' := m_P_greatestView) hX d_G_keepResponse_29 k_392 k_390 k_391 k_46 pf_P_greatestView (by decide) (by decide +kernel) ⟨by decide, by decide⟩) ?_
  refine SS.cons (so_istore_n hX d_G_keepResponse_32 rfl (by decide)) ?_
  refine SS.cons (so_aload_n hX d_G_keepResponse_33 rfl) ?_
  refine SS.cons (so_getf (C := R_P) (T := T_P) hX d_G_keepResponse_34 in_P rfl (by decide) k_129) ?_
  refine SS.cons (so_aload_n hX d_G_keepResponse_37 rfl) ?_
  refine SS.cons (so_iload_n hX d_G_keepResponse_38 rfl) ?_
  refine SS.cons (so_callV (M' := m_G_primaryOf) (T := T_G) hX d_G_keepResponse_39 rfl k_202 k_199 k_201 k_2 k_45 pf_G_primaryOf (by decide) (by decide +kernel) ⟨by decide, by decide⟩) ?_
  refine SS.cons (so_aldq hX d_G_keepResponse_42 rfl) ?_
  refine SS.cons (so_astore hX d_G_keepResponse_43 (by decide)) ?_
  refine SS.cons (so_aload hX d_G_keepResponse_45) ?_
  exact st_ifnull hX d_G_keepResponse_47 (by decide)
theorem b_G_keepResponse_50 {l : Launch} {D : va_G} {cid : Nat → ClassId} {X : CT} {Post : PT} (hX : OK l D cid m_G_keepResponse X Post) : SS l D cid m_G_keepResponse X 50 [o_aload 4, o_getf 1 3, o_iload 3] (t_cmp (fun x y => ¬ x = y) (FR l D cid m_G_keepResponse X 74) (FR l D cid m_G_keepResponse X 59)) := by
  refine SS.cons (so_aload hX d_G_keepResponse_50) ?_
  refine SS.cons (so_getf (C := R_E) (T := T_E) hX d_G_keepResponse_52 in_E rfl (by decide) k_250) ?_
  refine SS.cons (so_iload_n hX d_G_keepResponse_55 rfl) ?_
  exact st_icmp_ne hX d_G_keepResponse_56 (by decide)
theorem b_G_keepResponse_59 {l : Launch} {D : va_G} {cid : Nat → ClassId} {X : CT} {Post : PT} (hX : OK l D cid m_G_keepResponse X Post) : SS l D cid m_G_keepResponse X 59 [o_aload 1, o_iload 3, o_aload 4, o_getf 1 6, o_aload 4, o_getf 1 7, o_callV l D cid m_P_becomeNormal 2 3] (FR l D cid m_G_keepResponse X 74) := by
  refine SS.cons (so_aload_n hX d_G_keepResponse_59 rfl) ?_
  refine SS.cons (so_iload_n hX d_G_keepResponse_60 rfl) ?_
  refine SS.cons (so_aload hX d_G_keepResponse_61) ?_
  refine SS.cons (so_getf (C := R_E) (T := T_E) hX d_G_keepResponse_63 in_E rfl (by decide) k_258) ?_
  refine SS.cons (so_aload hX d_G_keepResponse_66) ?_
  refine SS.cons (so_getf (C := R_E) (T := T_E) hX d_G_keepResponse_68 in_E rfl (by decide) k_261) ?_
  refine SS.cons (so_callV (M' := m_P_becomeNormal) (T := T_P) hX d_G_keepResponse_71 rfl k_352 k_349 k_350 k_351 k_46 pf_P_becomeNormal (by decide) (by decide +kernel) ⟨by decide, by decide⟩) ?_
  exact SS.fall
theorem b_G_keepResponse_74 {l : Launch} {D : va_G} {cid : Nat → ClassId} {X : CT} {Post : PT} (hX : OK l D cid m_G_keepResponse X Post) : SS l D cid m_G_keepResponse X 74 [] (t_ret Post) := by
  exact st_ret hX d_G_keepResponse_74 rfl
abbrev m_G_receive : MT := (⟨"GroupLog", "receive", "(LGroupLog$Message;)I"⟩, prog_1_method_33_code, 3, (some FieldType.int), { frames := 6, cells := 23, slots := 179, locals := 133 })
theorem pf_G_receive : plainFor m_G_receive.1 = true := by decide +kernel
theorem d_G_receive_0 : decode prog_1_method_33_code 0 = .ok (.aload_n 0, 1) := by decide +kernel
theorem d_G_receive_1 : decode prog_1_method_33_code 1 = .ok (.getfield 37, 3) := by decide +kernel
theorem d_G_receive_4 : decode prog_1_method_33_code 4 = .ok (.aload_n 1, 1) := by decide +kernel
theorem d_G_receive_5 : decode prog_1_method_33_code 5 = .ok (.getfield 154, 3) := by decide +kernel
theorem d_G_receive_8 : decode prog_1_method_33_code 8 = .ok (.aaload, 1) := by decide +kernel
theorem d_G_receive_9 : decode prog_1_method_33_code 9 = .ok (.astore_n 2, 1) := by decide +kernel
theorem d_G_receive_10 : decode prog_1_method_33_code 10 = .ok (.aload_n 2, 1) := by decide +kernel
theorem d_G_receive_11 : decode prog_1_method_33_code 11 = .ok (.aload_n 1, 1) := by decide +kernel
theorem d_G_receive_12 : decode prog_1_method_33_code 12 = .ok (.invokestatic 174, 3) := by decide +kernel
theorem d_G_receive_15 : decode prog_1_method_33_code 15 = .ok (.ifCond .ne 5, 3) := by decide +kernel
theorem d_G_receive_18 : decode prog_1_method_33_code 18 = .ok (.iconst 0, 1) := by decide +kernel
theorem d_G_receive_19 : decode prog_1_method_33_code 19 = .ok (.ireturn, 1) := by decide +kernel
theorem d_G_receive_20 : decode prog_1_method_33_code 20 = .ok (.aload_n 2, 1) := by decide +kernel
theorem d_G_receive_21 : decode prog_1_method_33_code 21 = .ok (.aload_n 1, 1) := by decide +kernel
theorem d_G_receive_22 : decode prog_1_method_33_code 22 = .ok (.invokestatic 178, 3) := by decide +kernel
theorem d_G_receive_25 : decode prog_1_method_33_code 25 = .ok (.ifCond .eq 5, 3) := by decide +kernel
theorem d_G_receive_28 : decode prog_1_method_33_code 28 = .ok (.iconst 1, 1) := by decide +kernel
theorem d_G_receive_29 : decode prog_1_method_33_code 29 = .ok (.ireturn, 1) := by decide +kernel
theorem d_G_receive_30 : decode prog_1_method_33_code 30 = .ok (.aload_n 2, 1) := by decide +kernel
theorem d_G_receive_31 : decode prog_1_method_33_code 31 = .ok (.aload_n 1, 1) := by decide +kernel
theorem d_G_receive_32 : decode prog_1_method_33_code 32 = .ok (.getfield 181, 3) := by decide +kernel
theorem d_G_receive_35 : decode prog_1_method_33_code 35 = .ok (.invokevirtual 182, 3) := by decide +kernel
theorem d_G_receive_38 : decode prog_1_method_33_code 38 = .ok (.aload_n 2, 1) := by decide +kernel
theorem d_G_receive_39 : decode prog_1_method_33_code 39 = .ok (.invokevirtual 186, 3) := by decide +kernel
theorem d_G_receive_42 : decode prog_1_method_33_code 42 = .ok (.aload_n 1, 1) := by decide +kernel
theorem d_G_receive_43 : decode prog_1_method_33_code 43 = .ok (.getfield 148, 3) := by decide +kernel
theorem d_G_receive_46 : decode prog_1_method_33_code 46 = .ok (.tableswitch 139 1 8 #[46, 55, 64, 74, 83, 101, 119, 130], 46) := by decide +kernel
theorem d_G_receive_92 : decode prog_1_method_33_code 92 = .ok (.aload_n 0, 1) := by decide +kernel
theorem d_G_receive_93 : decode prog_1_method_33_code 93 = .ok (.aload_n 2, 1) := by decide +kernel
theorem d_G_receive_94 : decode prog_1_method_33_code 94 = .ok (.aload_n 1, 1) := by decide +kernel
theorem d_G_receive_95 : decode prog_1_method_33_code 95 = .ok (.invokevirtual 189, 3) := by decide +kernel
theorem d_G_receive_98 : decode prog_1_method_33_code 98 = .ok (.goto 87, 3) := by decide +kernel
theorem d_G_receive_101 : decode prog_1_method_33_code 101 = .ok (.aload_n 0, 1) := by decide +kernel
theorem d_G_receive_102 : decode prog_1_method_33_code 102 = .ok (.aload_n 2, 1) := by decide +kernel
theorem d_G_receive_103 : decode prog_1_method_33_code 103 = .ok (.aload_n 1, 1) := by decide +kernel
theorem d_G_receive_104 : decode prog_1_method_33_code 104 = .ok (.invokevirtual 193, 3) := by decide +kernel
theorem d_G_receive_107 : decode prog_1_method_33_code 107 = .ok (.goto 78, 3) := by decide +kernel
theorem d_G_receive_110 : decode prog_1_method_33_code 110 = .ok (.aload_n 0, 1) := by decide +kernel
theorem d_G_receive_111 : decode prog_1_method_33_code 111 = .ok (.aload_n 2, 1) := by decide +kernel
theorem d_G_receive_112 : decode prog_1_method_33_code 112 = .ok (.aload_n 1, 1) := by decide +kernel
theorem d_G_receive_113 : decode prog_1_method_33_code 113 = .ok (.iconst 4, 1) := by decide +kernel
theorem d_G_receive_114 : decode prog_1_method_33_code 114 = .ok (.invokevirtual 196, 3) := by decide +kernel
theorem d_G_receive_117 : decode prog_1_method_33_code 117 = .ok (.goto 68, 3) := by decide +kernel
theorem d_G_receive_120 : decode prog_1_method_33_code 120 = .ok (.aload_n 0, 1) := by decide +kernel
theorem d_G_receive_121 : decode prog_1_method_33_code 121 = .ok (.aload_n 2, 1) := by decide +kernel
theorem d_G_receive_122 : decode prog_1_method_33_code 122 = .ok (.aload_n 1, 1) := by decide +kernel
theorem d_G_receive_123 : decode prog_1_method_33_code 123 = .ok (.invokevirtual 200, 3) := by decide +kernel
theorem d_G_receive_126 : decode prog_1_method_33_code 126 = .ok (.goto 59, 3) := by decide +kernel
theorem d_G_receive_129 : decode prog_1_method_33_code 129 = .ok (.aload_n 0, 1) := by decide +kernel
theorem d_G_receive_130 : decode prog_1_method_33_code 130 = .ok (.aload_n 2, 1) := by decide +kernel
theorem d_G_receive_131 : decode prog_1_method_33_code 131 = .ok (.aload_n 1, 1) := by decide +kernel
theorem d_G_receive_132 : decode prog_1_method_33_code 132 = .ok (.invokevirtual 203, 3) := by decide +kernel
theorem d_G_receive_135 : decode prog_1_method_33_code 135 = .ok (.ifCond .eq 50, 3) := by decide +kernel
theorem d_G_receive_138 : decode prog_1_method_33_code 138 = .ok (.aload_n 0, 1) := by decide +kernel
theorem d_G_receive_139 : decode prog_1_method_33_code 139 = .ok (.aload_n 2, 1) := by decide +kernel
theorem d_G_receive_140 : decode prog_1_method_33_code 140 = .ok (.aload_n 1, 1) := by decide +kernel
theorem d_G_receive_141 : decode prog_1_method_33_code 141 = .ok (.invokevirtual 206, 3) := by decide +kernel
theorem d_G_receive_144 : decode prog_1_method_33_code 144 = .ok (.goto 41, 3) := by decide +kernel
theorem d_G_receive_147 : decode prog_1_method_33_code 147 = .ok (.aload_n 0, 1) := by decide +kernel
theorem d_G_receive_148 : decode prog_1_method_33_code 148 = .ok (.aload_n 2, 1) := by decide +kernel
theorem d_G_receive_149 : decode prog_1_method_33_code 149 = .ok (.aload_n 1, 1) := by decide +kernel
theorem d_G_receive_150 : decode prog_1_method_33_code 150 = .ok (.invokevirtual 203, 3) := by decide +kernel
theorem d_G_receive_153 : decode prog_1_method_33_code 153 = .ok (.ifCond .eq 32, 3) := by decide +kernel
theorem d_G_receive_156 : decode prog_1_method_33_code 156 = .ok (.aload_n 0, 1) := by decide +kernel
theorem d_G_receive_157 : decode prog_1_method_33_code 157 = .ok (.aload_n 2, 1) := by decide +kernel
theorem d_G_receive_158 : decode prog_1_method_33_code 158 = .ok (.aload_n 1, 1) := by decide +kernel
theorem d_G_receive_159 : decode prog_1_method_33_code 159 = .ok (.invokevirtual 209, 3) := by decide +kernel
theorem d_G_receive_162 : decode prog_1_method_33_code 162 = .ok (.goto 23, 3) := by decide +kernel
theorem d_G_receive_165 : decode prog_1_method_33_code 165 = .ok (.aload_n 0, 1) := by decide +kernel
theorem d_G_receive_166 : decode prog_1_method_33_code 166 = .ok (.aload_n 2, 1) := by decide +kernel
theorem d_G_receive_167 : decode prog_1_method_33_code 167 = .ok (.aload_n 1, 1) := by decide +kernel
theorem d_G_receive_168 : decode prog_1_method_33_code 168 = .ok (.bipush 8, 2) := by decide +kernel
theorem d_G_receive_170 : decode prog_1_method_33_code 170 = .ok (.invokevirtual 196, 3) := by decide +kernel
theorem d_G_receive_173 : decode prog_1_method_33_code 173 = .ok (.goto 12, 3) := by decide +kernel
theorem d_G_receive_176 : decode prog_1_method_33_code 176 = .ok (.aload_n 0, 1) := by decide +kernel
theorem d_G_receive_177 : decode prog_1_method_33_code 177 = .ok (.aload_n 2, 1) := by decide +kernel
theorem d_G_receive_178 : decode prog_1_method_33_code 178 = .ok (.aload_n 1, 1) := by decide +kernel
theorem d_G_receive_179 : decode prog_1_method_33_code 179 = .ok (.invokevirtual 212, 3) := by decide +kernel
theorem d_G_receive_182 : decode prog_1_method_33_code 182 = .ok (.goto 3, 3) := by decide +kernel
theorem d_G_receive_185 : decode prog_1_method_33_code 185 = .ok (.iconst 2, 1) := by decide +kernel
theorem d_G_receive_186 : decode prog_1_method_33_code 186 = .ok (.ireturn, 1) := by decide +kernel
theorem b_G_receive_0 {l : Launch} {D : va_G} {cid : Nat → ClassId} {X : CT} {Post : PT} (hX : OK l D cid m_G_receive X Post) : SS l D cid m_G_receive X 0 [o_aload 0, o_getf 3 2, o_aload 1, o_getf 1 2, o_aldq 3, o_astore 2, o_aload 2, o_aload 1, o_callS l D cid m_G_hears 2] (t_if (fun x => ¬ x = 0) (FR l D cid m_G_receive X 20) (FR l D cid m_G_receive X 18)) := by
  refine SS.cons (so_aload_n hX d_G_receive_0 rfl) ?_
  refine SS.cons (so_getf (C := R_G) (T := T_G) hX d_G_receive_1 in_G rfl (by decide) k_161) ?_
  refine SS.cons (so_aload_n hX d_G_receive_4 rfl) ?_
  refine SS.cons (so_getf (C := R_E) (T := T_E) hX d_G_receive_5 in_E rfl (by decide) k_247) ?_
  refine SS.cons (so_aldq hX d_G_receive_8 rfl) ?_
  refine SS.cons (so_astore_n hX d_G_receive_9 rfl (by decide)) ?_
  refine SS.cons (so_aload_n hX d_G_receive_10 rfl) ?_
  refine SS.cons (so_aload_n hX d_G_receive_11 rfl) ?_
  refine SS.cons (so_callS (M' := m_G_hears) hX d_G_receive_12 k_293 k_291 k_292 k_45 pf_G_hears (by decide) (by decide +kernel) ⟨by decide, by decide⟩) ?_
  exact st_if_ne hX d_G_receive_15 (by decide)
theorem b_G_receive_18 {l : Launch} {D : va_G} {cid : Nat → ClassId} {X : CT} {Post : PT} (hX : OK l D cid m_G_receive X Post) : SS l D cid m_G_receive X 18 [o_push (.int 0)] (t_iret Post) := by
  refine SS.cons (so_iconst hX d_G_receive_18 (by decide)) ?_
  exact st_iret hX d_G_receive_19 rfl
theorem b_G_receive_20 {l : Launch} {D : va_G} {cid : Nat → ClassId} {X : CT} {Post : PT} (hX : OK l D cid m_G_receive X Post) : SS l D cid m_G_receive X 20 [o_aload 2, o_aload 1, o_callS l D cid m_G_isOutdated 2] (t_if (fun x => x = 0) (FR l D cid m_G_receive X 30) (FR l D cid m_G_receive X 28)) := by
  refine SS.cons (so_aload_n hX d_G_receive_20 rfl) ?_
  refine SS.cons (so_aload_n hX d_G_receive_21 rfl) ?_
  refine SS.cons (so_callS (M' := m_G_isOutdated) hX d_G_receive_22 k_296 k_294 k_295 k_45 pf_G_isOutdated (by decide) (by decide +kernel) ⟨by decide, by decide⟩) ?_
  exact st_if_eq hX d_G_receive_25 (by decide)
theorem b_G_receive_28 {l : Launch} {D : va_G} {cid : Nat → ClassId} {X : CT} {Post : PT} (hX : OK l D cid m_G_receive X Post) : SS l D cid m_G_receive X 28 [o_push (.int 1)] (t_iret Post) := by
  refine SS.cons (so_iconst hX d_G_receive_28 (by decide)) ?_
  exact st_iret hX d_G_receive_29 rfl
theorem b_G_receive_30 {l : Launch} {D : va_G} {cid : Nat → ClassId} {X : CT} {Post : PT} (hX : OK l D cid m_G_receive X Post) : SS l D cid m_G_receive X 30 [o_aload 2, o_aload 1, o_getf 1 5, o_callV l D cid m_P_raiseVector 2 1, o_aload 2, o_callV l D cid m_P_forgetOutdated 2 0, o_aload 1, o_getf 1 0] (t_sw 1 8 [FR l D cid m_G_receive X 92, FR l D cid m_G_receive X 101, FR l D cid m_G_receive X 110, FR l D cid m_G_receive X 120, FR l D cid m_G_receive X 129, FR l D cid m_G_receive X 147, FR l D cid m_G_receive X 165, FR l D cid m_G_receive X 176] (FR l D cid m_G_receive X 185)) := by
  refine SS.cons (so_aload_n hX d_G_receive_30 rfl) ?_
  refine SS.cons (so_aload_n hX d_G_receive_31 rfl) ?_
  refine SS.cons (so_getf (C := R_E) (T := T_E) hX d_G_receive_32 in_E rfl (by decide) k_255) ?_
  refine SS.cons (so_callV (M' := m_P_raiseVector) (T := T_P) hX d_G_receive_35 rfl k_300 k_297 k_298 k_299 k_46 pf_P_raiseVector (by decide) (by decide +kernel) ⟨by decide, by decide⟩) ?_
  refine SS.cons (so_aload_n hX d_G_receive_38 rfl) ?_
  refine SS.cons (so_callV (M' := m_P_forgetOutdated) (T := T_P) hX d_G_receive_39 rfl k_312 k_309 k_310 k_311 k_46 pf_P_forgetOutdated (by decide) (by decide +kernel) ⟨by decide, by decide⟩) ?_
  refine SS.cons (so_aload_n hX d_G_receive_42 rfl) ?_
  refine SS.cons (so_getf (C := R_E) (T := T_E) hX d_G_receive_43 in_E rfl (by decide) k_243) ?_
  exact st_sw (tgts := [92, 101, 110, 120, 129, 147, 165, 176]) hX d_G_receive_46 (by decide) (by decide) (by decide)
theorem b_G_receive_92 {l : Launch} {D : va_G} {cid : Nat → ClassId} {X : CT} {Post : PT} (hX : OK l D cid m_G_receive X Post) : SS l D cid m_G_receive X 92 [o_aload 0, o_aload 2, o_aload 1, o_callV l D cid m_G_takePrepare 3 2] (FR l D cid m_G_receive X 185) := by
  refine SS.cons (so_aload_n hX d_G_receive_92 rfl) ?_
  refine SS.cons (so_aload_n hX d_G_receive_93 rfl) ?_
  refine SS.cons (so_aload_n hX d_G_receive_94 rfl) ?_
  refine SS.cons (so_callV (M' := m_G_takePrepare) (T := T_G) hX d_G_receive_95 rfl k_320 k_317 k_319 k_10 k_45 pf_G_takePrepare (by decide) (by decide +kernel) ⟨by decide, by decide⟩) ?_
  exact so_goto hX d_G_receive_98 (by decide)
theorem b_G_receive_101 {l : Launch} {D : va_G} {cid : Nat → ClassId} {X : CT} {Post : PT} (hX : OK l D cid m_G_receive X Post) : SS l D cid m_G_receive X 101 [o_aload 0, o_aload 2, o_aload 1, o_callV l D cid m_G_takeOk 3 2] (FR l D cid m_G_receive X 185) := by
  refine SS.cons (so_aload_n hX d_G_receive_101 rfl) ?_
  refine SS.cons (so_aload_n hX d_G_receive_102 rfl) ?_
  refine SS.cons (so_aload_n hX d_G_receive_103 rfl) ?_
  refine SS.cons (so_callV (M' := m_G_takeOk) (T := T_G) hX d_G_receive_104 rfl k_328 k_325 k_327 k_11 k_45 pf_G_takeOk (by decide) (by decide +kernel) ⟨by decide, by decide⟩) ?_
  exact so_goto hX d_G_receive_107 (by decide)
theorem b_G_receive_110 {l : Launch} {D : va_G} {cid : Nat → ClassId} {X : CT} {Post : PT} (hX : OK l D cid m_G_receive X Post) : SS l D cid m_G_receive X 110 [o_aload 0, o_aload 2, o_aload 1, o_push (.int 4), o_callV l D cid m_G_replyIfNormal 3 3] (FR l D cid m_G_receive X 185) := by
  refine SS.cons (so_aload_n hX d_G_receive_110 rfl) ?_
  refine SS.cons (so_aload_n hX d_G_receive_111 rfl) ?_
  refine SS.cons (so_aload_n hX d_G_receive_112 rfl) ?_
  refine SS.cons (so_iconst hX d_G_receive_113 (by decide)) ?_
  refine SS.cons (so_callV (M' := m_G_replyIfNormal) (T := T_G) hX d_G_receive_114 rfl k_344 k_341 k_343 k_13 k_45 pf_G_replyIfNormal (by decide) (by decide +kernel) ⟨by decide, by decide⟩) ?_
  exact so_goto hX d_G_receive_117 (by decide)
theorem b_G_receive_120 {l : Launch} {D : va_G} {cid : Nat → ClassId} {X : CT} {Post : PT} (hX : OK l D cid m_G_receive X Post) : SS l D cid m_G_receive X 120 [o_aload 0, o_aload 2, o_aload 1, o_callV l D cid m_G_takeState 3 2] (FR l D cid m_G_receive X 185) := by
  refine SS.cons (so_aload_n hX d_G_receive_120 rfl) ?_
  refine SS.cons (so_aload_n hX d_G_receive_121 rfl) ?_
  refine SS.cons (so_aload_n hX d_G_receive_122 rfl) ?_
  refine SS.cons (so_callV (M' := m_G_takeState) (T := T_G) hX d_G_receive_123 rfl k_348 k_345 k_347 k_14 k_45 pf_G_takeState (by decide) (by decide +kernel) ⟨by decide, by decide⟩) ?_
  exact so_goto hX d_G_receive_126 (by decide)
theorem b_G_receive_129 {l : Launch} {D : va_G} {cid : Nat → ClassId} {X : CT} {Post : PT} (hX : OK l D cid m_G_receive X Post) : SS l D cid m_G_receive X 129 [o_aload 0, o_aload 2, o_aload 1, o_callV l D cid m_G_joinChange 3 2] (t_if (fun x => x = 0) (FR l D cid m_G_receive X 185) (FR l D cid m_G_receive X 138)) := by
  refine SS.cons (so_aload_n hX d_G_receive_129 rfl) ?_
  refine SS.cons (so_aload_n hX d_G_receive_130 rfl) ?_
  refine SS.cons (so_aload_n hX d_G_receive_131 rfl) ?_
  refine SS.cons (so_callV (M' := m_G_joinChange) (T := T_G) hX d_G_receive_132 rfl k_360 k_357 k_359 k_15 k_45 pf_G_joinChange (by decide) (by decide +kernel) ⟨by decide, by decide⟩) ?_
  exact st_if_eq hX d_G_receive_135 (by decide)
theorem b_G_receive_138 {l : Launch} {D : va_G} {cid : Nat → ClassId} {X : CT} {Post : PT} (hX : OK l D cid m_G_receive X Post) : SS l D cid m_G_receive X 138 [o_aload 0, o_aload 2, o_aload 1, o_callV l D cid m_G_keepVote 3 2] (FR l D cid m_G_receive X 185) := by
  refine SS.cons (so_aload_n hX d_G_receive_138 rfl) ?_
  refine SS.cons (so_aload_n hX d_G_receive_139 rfl) ?_
  refine SS.cons (so_aload_n hX d_G_receive_140 rfl) ?_
  refine SS.cons (so_callV (M' := m_G_keepVote) (T := T_G) hX d_G_receive_141 rfl k_369 k_366 k_368 k_17 k_45 pf_G_keepVote (by decide) (by decide +kernel) ⟨by decide, by decide⟩) ?_
  exact so_goto hX d_G_receive_144 (by decide)
theorem b_G_receive_147 {l : Launch} {D : va_G} {cid : Nat → ClassId} {X : CT} {Post : PT} (hX : OK l D cid m_G_receive X Post) : SS l D cid m_G_receive X 147 [o_aload 0, o_aload 2, o_aload 1, o_callV l D cid m_G_joinChange 3 2] (t_if (fun x => x = 0) (FR l D cid m_G_receive X 185) (FR l D cid m_G_receive X 156)) := by
  refine SS.cons (so_aload_n hX d_G_receive_147 rfl) ?_
  refine SS.cons (so_aload_n hX d_G_receive_148 rfl) ?_
  refine SS.cons (so_aload_n hX d_G_receive_149 rfl) ?_
  refine SS.cons (so_callV (M' := m_G_joinChange) (T := T_G) hX d_G_receive_150 rfl k_360 k_357 k_359 k_15 k_45 pf_G_joinChange (by decide) (by decide +kernel) ⟨by decide, by decide⟩) ?_
  exact st_if_eq hX d_G_receive_153 (by decide)
theorem b_G_receive_156 {l : Launch} {D : va_G} {cid : Nat → ClassId} {X : CT} {Post : PT} (hX : OK l D cid m_G_receive X Post) : SS l D cid m_G_receive X 156 [o_aload 0, o_aload 2, o_aload 1, o_callV l D cid m_G_keepPaper 3 2] (FR l D cid m_G_receive X 185) := by
  refine SS.cons (so_aload_n hX d_G_receive_156 rfl) ?_
  refine SS.cons (so_aload_n hX d_G_receive_157 rfl) ?_
  refine SS.cons (so_aload_n hX d_G_receive_158 rfl) ?_
  refine SS.cons (so_callV (M' := m_G_keepPaper) (T := T_G) hX d_G_receive_159 rfl k_376 k_373 k_375 k_18 k_45 pf_G_keepPaper (by decide) (by decide +kernel) ⟨by decide, by decide⟩) ?_
  exact so_goto hX d_G_receive_162 (by decide)
theorem b_G_receive_165 {l : Launch} {D : va_G} {cid : Nat → ClassId} {X : CT} {Post : PT} (hX : OK l D cid m_G_receive X Post) : SS l D cid m_G_receive X 165 [o_aload 0, o_aload 2, o_aload 1, o_push (.int 8), o_callV l D cid m_G_replyIfNormal 3 3] (FR l D cid m_G_receive X 185) := by
  refine SS.cons (so_aload_n hX d_G_receive_165 rfl) ?_
  refine SS.cons (so_aload_n hX d_G_receive_166 rfl) ?_
  refine SS.cons (so_aload_n hX d_G_receive_167 rfl) ?_
  refine SS.cons (so_bipush hX d_G_receive_168 (by decide)) ?_
  refine SS.cons (so_callV (M' := m_G_replyIfNormal) (T := T_G) hX d_G_receive_170 rfl k_344 k_341 k_343 k_13 k_45 pf_G_replyIfNormal (by decide) (by decide +kernel) ⟨by decide, by decide⟩) ?_
  exact so_goto hX d_G_receive_173 (by decide)
theorem b_G_receive_176 {l : Launch} {D : va_G} {cid : Nat → ClassId} {X : CT} {Post : PT} (hX : OK l D cid m_G_receive X Post) : SS l D cid m_G_receive X 176 [o_aload 0, o_aload 2, o_aload 1, o_callV l D cid m_G_keepResponse 3 2] (FR l D cid m_G_receive X 185) := by
  refine SS.cons (so_aload_n hX d_G_receive_176 rfl) ?_
  refine SS.cons (so_aload_n hX d_G_receive_177 rfl) ?_
  refine SS.cons (so_aload_n hX d_G_receive_178 rfl) ?_
  refine SS.cons (so_callV (M' := m_G_keepResponse) (T := T_G) hX d_G_receive_179 rfl k_389 k_386 k_388 k_19 k_45 pf_G_keepResponse (by decide) (by decide +kernel) ⟨by decide, by decide⟩) ?_
  exact so_goto hX d_G_receive_182 (by decide)
theorem b_G_receive_185 {l : Launch} {D : va_G} {cid : Nat → ClassId} {X : CT} {Post : PT} (hX : OK l D cid m_G_receive X Post) : SS l D cid m_G_receive X 185 [o_push (.int 2)] (t_iret Post) := by
  refine SS.cons (so_iconst hX d_G_receive_185 (by decide)) ?_
  exact st_iret hX d_G_receive_186 rfl
abbrev m_G_deliver : MT := (⟨"GroupLog", "deliver", "(I)I"⟩, prog_1_method_3_code, 3, (some FieldType.int), { frames := 7, cells := 23, slots := 179, locals := 155 })
theorem pf_G_deliver : plainFor m_G_deliver.1 = true := by decide +kernel
theorem d_G_deliver_0 : decode prog_1_method_3_code 0 = .ok (.aload_n 0, 1) := by decide +kernel
theorem d_G_deliver_1 : decode prog_1_method_3_code 1 = .ok (.iload_n 1, 1) := by decide +kernel
theorem d_G_deliver_2 : decode prog_1_method_3_code 2 = .ok (.invokevirtual 83, 3) := by decide +kernel
theorem d_G_deliver_5 : decode prog_1_method_3_code 5 = .ok (.astore_n 2, 1) := by decide +kernel
theorem d_G_deliver_6 : decode prog_1_method_3_code 6 = .ok (.aload_n 2, 1) := by decide +kernel
theorem d_G_deliver_7 : decode prog_1_method_3_code 7 = .ok (.ifnonnull 7, 3) := by decide +kernel
theorem d_G_deliver_10 : decode prog_1_method_3_code 10 = .ok (.iconst (-1), 1) := by decide +kernel
theorem d_G_deliver_11 : decode prog_1_method_3_code 11 = .ok (.goto 8, 3) := by decide +kernel
theorem d_G_deliver_14 : decode prog_1_method_3_code 14 = .ok (.aload_n 0, 1) := by decide +kernel
theorem d_G_deliver_15 : decode prog_1_method_3_code 15 = .ok (.aload_n 2, 1) := by decide +kernel
theorem d_G_deliver_16 : decode prog_1_method_3_code 16 = .ok (.invokevirtual 87, 3) := by decide +kernel
theorem d_G_deliver_19 : decode prog_1_method_3_code 19 = .ok (.ireturn, 1) := by decide +kernel
theorem b_G_deliver_0 {l : Launch} {D : va_G} {cid : Nat → ClassId} {X : CT} {Post : PT} (hX : OK l D cid m_G_deliver X Post) : SS l D cid m_G_deliver X 0 [o_aload 0, o_iload 1, o_callV l D cid m_G_findMessage 3 1, o_astore 2, o_aload 2] (t_null (FR l D cid m_G_deliver X 10) (FR l D cid m_G_deliver X 14)) := by
  refine SS.cons (so_aload_n hX d_G_deliver_0 rfl) ?_
  refine SS.cons (so_iload_n hX d_G_deliver_1 rfl) ?_
  refine SS.cons (so_callV (M' := m_G_findMessage) (T := T_G) hX d_G_deliver_2 rfl k_286 k_283 k_285 k_7 k_45 pf_G_findMessage (by decide) (by decide +kernel) ⟨by decide, by decide⟩) ?_
  refine SS.cons (so_astore_n hX d_G_deliver_5 rfl (by decide)) ?_
  refine SS.cons (so_aload_n hX d_G_deliver_6 rfl) ?_
  exact st_ifnonnull hX d_G_deliver_7 (by decide)
theorem b_G_deliver_10 {l : Launch} {D : va_G} {cid : Nat → ClassId} {X : CT} {Post : PT} (hX : OK l D cid m_G_deliver X Post) : SS l D cid m_G_deliver X 10 [o_push (.int (-1))] (FR l D cid m_G_deliver X 19) := by
  refine SS.cons (so_iconst hX d_G_deliver_10 (by decide)) ?_
  exact so_goto hX d_G_deliver_11 (by decide)
theorem b_G_deliver_14 {l : Launch} {D : va_G} {cid : Nat → ClassId} {X : CT} {Post : PT} (hX : OK l D cid m_G_deliver X Post) : SS l D cid m_G_deliver X 14 [o_aload 0, o_aload 2, o_callV l D cid m_G_receive 3 1] (FR l D cid m_G_deliver X 19) := by
  refine SS.cons (so_aload_n hX d_G_deliver_14 rfl) ?_
  refine SS.cons (so_aload_n hX d_G_deliver_15 rfl) ?_
  refine SS.cons (so_callV (M' := m_G_receive) (T := T_G) hX d_G_deliver_16 rfl k_290 k_287 k_289 k_8 k_45 pf_G_receive (by decide) (by decide +kernel) ⟨by decide, by decide⟩) ?_
  exact SS.fall
theorem b_G_deliver_19 {l : Launch} {D : va_G} {cid : Nat → ClassId} {X : CT} {Post : PT} (hX : OK l D cid m_G_deliver X Post) : SS l D cid m_G_deliver X 19 [] (t_iret Post) := by
  exact st_iret hX d_G_deliver_19 rfl
abbrev m_G_next : MT := (⟨"GroupLog", "next", "()I"⟩, prog_1_method_4_code, 3, (some FieldType.int), { frames := 7, cells := 23, slots := 179, locals := 155 })
theorem pf_G_next : plainFor m_G_next.1 = true := by decide +kernel
theorem d_G_next_0 : decode prog_1_method_4_code 0 = .ok (.aload_n 0, 1) := by decide +kernel
theorem d_G_next_1 : decode prog_1_method_4_code 1 = .ok (.getfield 19, 3) := by decide +kernel
theorem d_G_next_4 : decode prog_1_method_4_code 4 = .ok (.iconst 1, 1) := by decide +kernel
theorem d_G_next_5 : decode prog_1_method_4_code 5 = .ok (.iadd, 1) := by decide +kernel
theorem d_G_next_6 : decode prog_1_method_4_code 6 = .ok (.aload_n 0, 1) := by decide +kernel
theorem d_G_next_7 : decode prog_1_method_4_code 7 = .ok (.getfield 15, 3) := by decide +kernel
theorem d_G_next_10 : decode prog_1_method_4_code 10 = .ok (.bipush 64, 2) := by decide +kernel
theorem d_G_next_12 : decode prog_1_method_4_code 12 = .ok (.isub, 1) := by decide +kernel
theorem d_G_next_13 : decode prog_1_method_4_code 13 = .ok (.invokestatic 91, 3) := by decide +kernel
theorem d_G_next_16 : decode prog_1_method_4_code 16 = .ok (.istore_n 1, 1) := by decide +kernel
theorem d_G_next_17 : decode prog_1_method_4_code 17 = .ok (.aload_n 0, 1) := by decide +kernel
theorem d_G_next_18 : decode prog_1_method_4_code 18 = .ok (.iload_n 1, 1) := by decide +kernel
theorem d_G_next_19 : decode prog_1_method_4_code 19 = .ok (.invokevirtual 83, 3) := by decide +kernel
theorem d_G_next_22 : decode prog_1_method_4_code 22 = .ok (.astore_n 2, 1) := by decide +kernel
theorem d_G_next_23 : decode prog_1_method_4_code 23 = .ok (.aload_n 2, 1) := by decide +kernel
theorem d_G_next_24 : decode prog_1_method_4_code 24 = .ok (.ifnonnull 5, 3) := by decide +kernel
theorem d_G_next_27 : decode prog_1_method_4_code 27 = .ok (.iconst (-1), 1) := by decide +kernel
theorem d_G_next_28 : decode prog_1_method_4_code 28 = .ok (.ireturn, 1) := by decide +kernel
theorem d_G_next_29 : decode prog_1_method_4_code 29 = .ok (.aload_n 0, 1) := by decide +kernel
theorem d_G_next_30 : decode prog_1_method_4_code 30 = .ok (.iload_n 1, 1) := by decide +kernel
theorem d_G_next_31 : decode prog_1_method_4_code 31 = .ok (.putfield 19, 3) := by decide +kernel
theorem d_G_next_34 : decode prog_1_method_4_code 34 = .ok (.aload_n 0, 1) := by decide +kernel
theorem d_G_next_35 : decode prog_1_method_4_code 35 = .ok (.aload_n 2, 1) := by decide +kernel
theorem d_G_next_36 : decode prog_1_method_4_code 36 = .ok (.invokevirtual 87, 3) := by decide +kernel
theorem d_G_next_39 : decode prog_1_method_4_code 39 = .ok (.ireturn, 1) := by decide +kernel
theorem b_G_next_0 {l : Launch} {D : va_G} {cid : Nat → ClassId} {X : CT} {Post : PT} (hX : OK l D cid m_G_next X Post) : SS l D cid m_G_next X 0 [o_aload 0, o_getf 3 5, o_push (.int 1), o_bin (fun x y => x + y), o_aload 0, o_getf 3 4, o_push (.int 64), o_bin (fun x y => x - y), o_callS l D cid m_J_max 2, o_istore 1, o_aload 0, o_iload 1, o_callV l D cid m_G_findMessage 3 1, o_astore 2, o_aload 2] (t_null (FR l D cid m_G_next X 27) (FR l D cid m_G_next X 29)) := by
  refine SS.cons (so_aload_n hX d_G_next_0 rfl) ?_
  refine SS.cons (so_getf (C := R_G) (T := T_G) hX d_G_next_1 in_G rfl (by decide) k_164) ?_
  refine SS.cons (so_iconst hX d_G_next_4 (by decide)) ?_
  refine SS.cons (so_iadd hX d_G_next_5) ?_
  refine SS.cons (so_aload_n hX d_G_next_6 rfl) ?_
  refine SS.cons (so_getf (C := R_G) (T := T_G) hX d_G_next_7 in_G rfl (by decide) k_163) ?_
  refine SS.cons (so_bipush hX d_G_next_10 (by decide)) ?_
  refine SS.cons (so_isub hX d_G_next_12) ?_
  refine SS.cons (so_callS (M' := m_J_max) hX d_G_next_13 k_212 k_324 k_211 k_49 pf_J_max (by decide) (by decide +kernel) ⟨by decide, by decide⟩) ?_
  refine SS.cons (so_istore_n hX d_G_next_16 rfl (by decide)) ?_
  refine SS.cons (so_aload_n hX d_G_next_17 rfl) ?_
  refine SS.cons (so_iload_n hX d_G_next_18 rfl) ?_
  refine SS.cons (so_callV (M' := m_G_findMessage) (T := T_G) hX d_G_next_19 rfl k_286 k_283 k_285 k_7 k_45 pf_G_findMessage (by decide) (by decide +kernel) ⟨by decide, by decide⟩) ?_
  refine SS.cons (so_astore_n hX d_G_next_22 rfl (by decide)) ?_
  refine SS.cons (so_aload_n hX d_G_next_23 rfl) ?_
  exact st_ifnonnull hX d_G_next_24 (by decide)
theorem b_G_next_27 {l : Launch} {D : va_G} {cid : Nat → ClassId} {X : CT} {Post : PT} (hX : OK l D cid m_G_next X Post) : SS l D cid m_G_next X 27 [o_push (.int (-1))] (t_iret Post) := by
  refine SS.cons (so_iconst hX d_G_next_27 (by decide)) ?_
  exact st_iret hX d_G_next_28 rfl
theorem b_G_next_29 {l : Launch} {D : va_G} {cid : Nat → ClassId} {X : CT} {Post : PT} (hX : OK l D cid m_G_next X Post) : SS l D cid m_G_next X 29 [o_aload 0, o_iload 1, o_put okI 3 5, o_aload 0, o_aload 2, o_callV l D cid m_G_receive 3 1] (t_iret Post) := by
  refine SS.cons (so_aload_n hX d_G_next_29 rfl) ?_
  refine SS.cons (so_iload_n hX d_G_next_30 rfl) ?_
  refine SS.cons (so_put (C := R_G) (T := T_G) ok_I hX d_G_next_31 in_G ty_G nm_G rfl (by decide) k_164 rfl rfl) ?_
  refine SS.cons (so_aload_n hX d_G_next_34 rfl) ?_
  refine SS.cons (so_aload_n hX d_G_next_35 rfl) ?_
  refine SS.cons (so_callV (M' := m_G_receive) (T := T_G) hX d_G_next_36 rfl k_290 k_287 k_289 k_8 k_45 pf_G_receive (by decide) (by decide +kernel) ⟨by decide, by decide⟩) ?_
  exact st_iret hX d_G_next_39 rfl
abbrev m_G_remind : MT := (⟨"GroupLog", "remind", "(I)Z"⟩, prog_1_method_5_code, 2, (some FieldType.boolean), { frames := 4, cells := 5, slots := 40, locals := 89 })
theorem pf_G_remind : plainFor m_G_remind.1 = true := by decide +kernel
theorem d_G_remind_0 : decode prog_1_method_5_code 0 = .ok (.aload_n 0, 1) := by decide +kernel
theorem d_G_remind_1 : decode prog_1_method_5_code 1 = .ok (.iload_n 1, 1) := by decide +kernel
theorem d_G_remind_2 : decode prog_1_method_5_code 2 = .ok (.invokevirtual 44, 3) := by decide +kernel
theorem d_G_remind_5 : decode prog_1_method_5_code 5 = .ok (.ifCond .eq 16, 3) := by decide +kernel
theorem d_G_remind_8 : decode prog_1_method_5_code 8 = .ok (.aload_n 0, 1) := by decide +kernel
theorem d_G_remind_9 : decode prog_1_method_5_code 9 = .ok (.aload_n 0, 1) := by decide +kernel
theorem d_G_remind_10 : decode prog_1_method_5_code 10 = .ok (.getfield 37, 3) := by decide +kernel
theorem d_G_remind_13 : decode prog_1_method_5_code 13 = .ok (.iload_n 1, 1) := by decide +kernel
theorem d_G_remind_14 : decode prog_1_method_5_code 14 = .ok (.aaload, 1) := by decide +kernel
theorem d_G_remind_15 : decode prog_1_method_5_code 15 = .ok (.invokevirtual 51, 3) := by decide +kernel
theorem d_G_remind_18 : decode prog_1_method_5_code 18 = .ok (.ifCond .ne 5, 3) := by decide +kernel
theorem d_G_remind_21 : decode prog_1_method_5_code 21 = .ok (.iconst 0, 1) := by decide +kernel
theorem d_G_remind_22 : decode prog_1_method_5_code 22 = .ok (.ireturn, 1) := by decide +kernel
theorem d_G_remind_23 : decode prog_1_method_5_code 23 = .ok (.aload_n 0, 1) := by decide +kernel
theorem d_G_remind_24 : decode prog_1_method_5_code 24 = .ok (.aload_n 0, 1) := by decide +kernel
theorem d_G_remind_25 : decode prog_1_method_5_code 25 = .ok (.getfield 37, 3) := by decide +kernel
theorem d_G_remind_28 : decode prog_1_method_5_code 28 = .ok (.iload_n 1, 1) := by decide +kernel
theorem d_G_remind_29 : decode prog_1_method_5_code 29 = .ok (.aaload, 1) := by decide +kernel
theorem d_G_remind_30 : decode prog_1_method_5_code 30 = .ok (.iconst 1, 1) := by decide +kernel
theorem d_G_remind_31 : decode prog_1_method_5_code 31 = .ok (.invokevirtual 79, 3) := by decide +kernel
theorem d_G_remind_34 : decode prog_1_method_5_code 34 = .ok (.iconst 1, 1) := by decide +kernel
theorem d_G_remind_35 : decode prog_1_method_5_code 35 = .ok (.ireturn, 1) := by decide +kernel
theorem b_G_remind_0 {l : Launch} {D : va_G} {cid : Nat → ClassId} {X : CT} {Post : PT} (hX : OK l D cid m_G_remind X Post) : SS l D cid m_G_remind X 0 [o_aload 0, o_iload 1, o_callV l D cid m_G_isReplica 3 1] (t_if (fun x => x = 0) (FR l D cid m_G_remind X 21) (FR l D cid m_G_remind X 8)) := by
  refine SS.cons (so_aload_n hX d_G_remind_0 rfl) ?_
  refine SS.cons (so_iload_n hX d_G_remind_1 rfl) ?_
  refine SS.cons (so_callV (M' := m_G_isReplica) (T := T_G) hX d_G_remind_2 rfl k_191 k_188 k_190 k_0 k_45 pf_G_isReplica (by decide) (by decide +kernel) ⟨by decide, by decide⟩) ?_
  exact st_if_eq hX d_G_remind_5 (by decide)
theorem b_G_remind_8 {l : Launch} {D : va_G} {cid : Nat → ClassId} {X : CT} {Post : PT} (hX : OK l D cid m_G_remind X Post) : SS l D cid m_G_remind X 8 [o_aload 0, o_aload 0, o_getf 3 2, o_iload 1, o_aldq 3, o_callV l D cid m_G_leads 3 1] (t_if (fun x => ¬ x = 0) (FR l D cid m_G_remind X 23) (FR l D cid m_G_remind X 21)) := by
  refine SS.cons (so_aload_n hX d_G_remind_8 rfl) ?_
  refine SS.cons (so_aload_n hX d_G_remind_9 rfl) ?_
  refine SS.cons (so_getf (C := R_G) (T := T_G) hX d_G_remind_10 in_G rfl (by decide) k_161) ?_
  refine SS.cons (so_iload_n hX d_G_remind_13 rfl) ?_
  refine SS.cons (so_aldq hX d_G_remind_14 rfl) ?_
  refine SS.cons (so_callV (M' := m_G_leads) (T := T_G) hX d_G_remind_15 rfl k_198 k_195 k_197 k_1 k_45 pf_G_leads (by decide) (by decide +kernel) ⟨by decide, by decide⟩) ?_
  exact st_if_ne hX d_G_remind_18 (by decide)
theorem b_G_remind_21 {l : Launch} {D : va_G} {cid : Nat → ClassId} {X : CT} {Post : PT} (hX : OK l D cid m_G_remind X Post) : SS l D cid m_G_remind X 21 [o_push (.int 0)] (t_zret Post) := by
  refine SS.cons (so_iconst hX d_G_remind_21 (by decide)) ?_
  exact st_zret hX d_G_remind_22 rfl
theorem b_G_remind_23 {l : Launch} {D : va_G} {cid : Nat → ClassId} {X : CT} {Post : PT} (hX : OK l D cid m_G_remind X Post) : SS l D cid m_G_remind X 23 [o_aload 0, o_aload 0, o_getf 3 2, o_iload 1, o_aldq 3, o_push (.int 1), o_callV l D cid m_G_sendToAll 3 2, o_push (.int 1)] (t_zret Post) := by
  refine SS.cons (so_aload_n hX d_G_remind_23 rfl) ?_
  refine SS.cons (so_aload_n hX d_G_remind_24 rfl) ?_
  refine SS.cons (so_getf (C := R_G) (T := T_G) hX d_G_remind_25 in_G rfl (by decide) k_161) ?_
  refine SS.cons (so_iload_n hX d_G_remind_28 rfl) ?_
  refine SS.cons (so_aldq hX d_G_remind_29 rfl) ?_
  refine SS.cons (so_iconst hX d_G_remind_30 (by decide)) ?_
  refine SS.cons (so_callV (M' := m_G_sendToAll) (T := T_G) hX d_G_remind_31 rfl k_232 k_229 k_231 k_5 k_45 pf_G_sendToAll (by decide) (by decide +kernel) ⟨by decide, by decide⟩) ?_
  refine SS.cons (so_iconst hX d_G_remind_34 (by decide)) ?_
  exact st_zret hX d_G_remind_35 rfl
abbrev m_G_suspect : MT := (⟨"GroupLog", "suspect", "(I)Z"⟩, prog_1_method_6_code, 3, (some FieldType.boolean), { frames := 5, cells := 5, slots := 40, locals := 111 })
theorem pf_G_suspect : plainFor m_G_suspect.1 = true := by decide +kernel
theorem d_G_suspect_0 : decode prog_1_method_6_code 0 = .ok (.aload_n 0, 1) := by decide +kernel
theorem d_G_suspect_1 : decode prog_1_method_6_code 1 = .ok (.iload_n 1, 1) := by decide +kernel
theorem d_G_suspect_2 : decode prog_1_method_6_code 2 = .ok (.invokevirtual 44, 3) := by decide +kernel
theorem d_G_suspect_5 : decode prog_1_method_6_code 5 = .ok (.ifCond .ne 5, 3) := by decide +kernel
theorem d_G_suspect_8 : decode prog_1_method_6_code 8 = .ok (.iconst 0, 1) := by decide +kernel
theorem d_G_suspect_9 : decode prog_1_method_6_code 9 = .ok (.ireturn, 1) := by decide +kernel
theorem d_G_suspect_10 : decode prog_1_method_6_code 10 = .ok (.aload_n 0, 1) := by decide +kernel
theorem d_G_suspect_11 : decode prog_1_method_6_code 11 = .ok (.getfield 37, 3) := by decide +kernel
theorem d_G_suspect_14 : decode prog_1_method_6_code 14 = .ok (.iload_n 1, 1) := by decide +kernel
theorem d_G_suspect_15 : decode prog_1_method_6_code 15 = .ok (.aaload, 1) := by decide +kernel
theorem d_G_suspect_16 : decode prog_1_method_6_code 16 = .ok (.astore_n 2, 1) := by decide +kernel
theorem d_G_suspect_17 : decode prog_1_method_6_code 17 = .ok (.aload_n 2, 1) := by decide +kernel
theorem d_G_suspect_18 : decode prog_1_method_6_code 18 = .ok (.getfield 97, 3) := by decide +kernel
theorem d_G_suspect_21 : decode prog_1_method_6_code 21 = .ok (.ifCond .eq 13, 3) := by decide +kernel
theorem d_G_suspect_24 : decode prog_1_method_6_code 24 = .ok (.aload_n 2, 1) := by decide +kernel
theorem d_G_suspect_25 : decode prog_1_method_6_code 25 = .ok (.getfield 97, 3) := by decide +kernel
theorem d_G_suspect_28 : decode prog_1_method_6_code 28 = .ok (.iconst 1, 1) := by decide +kernel
theorem d_G_suspect_29 : decode prog_1_method_6_code 29 = .ok (.if_icmp .eq 5, 3) := by decide +kernel
theorem d_G_suspect_32 : decode prog_1_method_6_code 32 = .ok (.iconst 0, 1) := by decide +kernel
theorem d_G_suspect_33 : decode prog_1_method_6_code 33 = .ok (.ireturn, 1) := by decide +kernel
theorem d_G_suspect_34 : decode prog_1_method_6_code 34 = .ok (.aload_n 0, 1) := by decide +kernel
theorem d_G_suspect_35 : decode prog_1_method_6_code 35 = .ok (.aload_n 2, 1) := by decide +kernel
theorem d_G_suspect_36 : decode prog_1_method_6_code 36 = .ok (.aload_n 2, 1) := by decide +kernel
theorem d_G_suspect_37 : decode prog_1_method_6_code 37 = .ok (.getfield 100, 3) := by decide +kernel
theorem d_G_suspect_40 : decode prog_1_method_6_code 40 = .ok (.iconst 1, 1) := by decide +kernel
theorem d_G_suspect_41 : decode prog_1_method_6_code 41 = .ok (.iadd, 1) := by decide +kernel
theorem d_G_suspect_42 : decode prog_1_method_6_code 42 = .ok (.invokevirtual 103, 3) := by decide +kernel
theorem d_G_suspect_45 : decode prog_1_method_6_code 45 = .ok (.iconst 1, 1) := by decide +kernel
theorem d_G_suspect_46 : decode prog_1_method_6_code 46 = .ok (.ireturn, 1) := by decide +kernel
theorem b_G_suspect_0 {l : Launch} {D : va_G} {cid : Nat → ClassId} {X : CT} {Post : PT} (hX : OK l D cid m_G_suspect X Post) : SS l D cid m_G_suspect X 0 [o_aload 0, o_iload 1, o_callV l D cid m_G_isReplica 3 1] (t_if (fun x => ¬ x = 0) (FR l D cid m_G_suspect X 10) (FR l D cid m_G_suspect X 8)) := by
  refine SS.cons (so_aload_n hX d_G_suspect_0 rfl) ?_
  refine SS.cons (so_iload_n hX d_G_suspect_1 rfl) ?_
  refine SS.cons (so_callV (M' := m_G_isReplica) (T := T_G) hX d_G_suspect_2 rfl k_191 k_188 k_190 k_0 k_45 pf_G_isReplica (by decide) (by decide +kernel) ⟨by decide, by decide⟩) ?_
  exact st_if_ne hX d_G_suspect_5 (by decide)
theorem b_G_suspect_8 {l : Launch} {D : va_G} {cid : Nat → ClassId} {X : CT} {Post : PT} (hX : OK l D cid m_G_suspect X Post) : SS l D cid m_G_suspect X 8 [o_push (.int 0)] (t_zret Post) := by
  refine SS.cons (so_iconst hX d_G_suspect_8 (by decide)) ?_
  exact st_zret hX d_G_suspect_9 rfl
theorem b_G_suspect_10 {l : Launch} {D : va_G} {cid : Nat → ClassId} {X : CT} {Post : PT} (hX : OK l D cid m_G_suspect X Post) : SS l D cid m_G_suspect X 10 [o_aload 0, o_getf 3 2, o_iload 1, o_aldq 3, o_astore 2, o_aload 2, o_getf 2 1] (t_if (fun x => x = 0) (FR l D cid m_G_suspect X 34) (FR l D cid m_G_suspect X 24)) := by
  refine SS.cons (so_aload_n hX d_G_suspect_10 rfl) ?_
  refine SS.cons (so_getf (C := R_G) (T := T_G) hX d_G_suspect_11 in_G rfl (by decide) k_161) ?_
  refine SS.cons (so_iload_n hX d_G_suspect_14 rfl) ?_
  refine SS.cons (so_aldq hX d_G_suspect_15 rfl) ?_
  refine SS.cons (so_astore_n hX d_G_suspect_16 rfl (by decide)) ?_
  refine SS.cons (so_aload_n hX d_G_suspect_17 rfl) ?_
  refine SS.cons (so_getf (C := R_P) (T := T_P) hX d_G_suspect_18 in_P rfl (by decide) k_105) ?_
  exact st_if_eq hX d_G_suspect_21 (by decide)
theorem b_G_suspect_24 {l : Launch} {D : va_G} {cid : Nat → ClassId} {X : CT} {Post : PT} (hX : OK l D cid m_G_suspect X Post) : SS l D cid m_G_suspect X 24 [o_aload 2, o_getf 2 1, o_push (.int 1)] (t_cmp (fun x y => x = y) (FR l D cid m_G_suspect X 34) (FR l D cid m_G_suspect X 32)) := by
  refine SS.cons (so_aload_n hX d_G_suspect_24 rfl) ?_
  refine SS.cons (so_getf (C := R_P) (T := T_P) hX d_G_suspect_25 in_P rfl (by decide) k_105) ?_
  refine SS.cons (so_iconst hX d_G_suspect_28 (by decide)) ?_
  exact st_icmp_eq hX d_G_suspect_29 (by decide)
theorem b_G_suspect_32 {l : Launch} {D : va_G} {cid : Nat → ClassId} {X : CT} {Post : PT} (hX : OK l D cid m_G_suspect X Post) : SS l D cid m_G_suspect X 32 [o_push (.int 0)] (t_zret Post) := by
  refine SS.cons (so_iconst hX d_G_suspect_32 (by decide)) ?_
  exact st_zret hX d_G_suspect_33 rfl
theorem b_G_suspect_34 {l : Launch} {D : va_G} {cid : Nat → ClassId} {X : CT} {Post : PT} (hX : OK l D cid m_G_suspect X Post) : SS l D cid m_G_suspect X 34 [o_aload 0, o_aload 2, o_aload 2, o_getf 2 2, o_push (.int 1), o_bin (fun x y => x + y), o_callV l D cid m_G_startChanging 3 2, o_push (.int 1)] (t_zret Post) := by
  refine SS.cons (so_aload_n hX d_G_suspect_34 rfl) ?_
  refine SS.cons (so_aload_n hX d_G_suspect_35 rfl) ?_
  refine SS.cons (so_aload_n hX d_G_suspect_36 rfl) ?_
  refine SS.cons (so_getf (C := R_P) (T := T_P) hX d_G_suspect_37 in_P rfl (by decide) k_108) ?_
  refine SS.cons (so_iconst hX d_G_suspect_40 (by decide)) ?_
  refine SS.cons (so_iadd hX d_G_suspect_41) ?_
  refine SS.cons (so_callV (M' := m_G_startChanging) (T := T_G) hX d_G_suspect_42 rfl k_364 k_361 k_363 k_16 k_45 pf_G_startChanging (by decide) (by decide +kernel) ⟨by decide, by decide⟩) ?_
  refine SS.cons (so_iconst hX d_G_suspect_45 (by decide)) ?_
  exact st_zret hX d_G_suspect_46 rfl
abbrev m_G_isLost : MT := (⟨"GroupLog", "isLost", "(LGroupLog$Replica;)Z"⟩, prog_1_method_26_code, 1, (some FieldType.boolean), { frames := 0, cells := 0, slots := 0, locals := 0 })
theorem pf_G_isLost : plainFor m_G_isLost.1 = true := by decide +kernel
theorem d_G_isLost_0 : decode prog_1_method_26_code 0 = .ok (.aload_n 0, 1) := by decide +kernel
theorem d_G_isLost_1 : decode prog_1_method_26_code 1 = .ok (.getfield 97, 3) := by decide +kernel
theorem d_G_isLost_4 : decode prog_1_method_26_code 4 = .ok (.iconst 3, 1) := by decide +kernel
theorem d_G_isLost_5 : decode prog_1_method_26_code 5 = .ok (.if_icmp .eq 11, 3) := by decide +kernel
theorem d_G_isLost_8 : decode prog_1_method_26_code 8 = .ok (.aload_n 0, 1) := by decide +kernel
theorem d_G_isLost_9 : decode prog_1_method_26_code 9 = .ok (.getfield 97, 3) := by decide +kernel
theorem d_G_isLost_12 : decode prog_1_method_26_code 12 = .ok (.iconst 2, 1) := by decide +kernel
theorem d_G_isLost_13 : decode prog_1_method_26_code 13 = .ok (.if_icmp .ne 7, 3) := by decide +kernel
theorem d_G_isLost_16 : decode prog_1_method_26_code 16 = .ok (.iconst 1, 1) := by decide +kernel
theorem d_G_isLost_17 : decode prog_1_method_26_code 17 = .ok (.goto 4, 3) := by decide +kernel
theorem d_G_isLost_20 : decode prog_1_method_26_code 20 = .ok (.iconst 0, 1) := by decide +kernel
theorem d_G_isLost_21 : decode prog_1_method_26_code 21 = .ok (.ireturn, 1) := by decide +kernel
theorem b_G_isLost_0 {l : Launch} {D : va_G} {cid : Nat → ClassId} {X : CT} {Post : PT} (hX : OK l D cid m_G_isLost X Post) : SS l D cid m_G_isLost X 0 [o_aload 0, o_getf 2 1, o_push (.int 3)] (t_cmp (fun x y => x = y) (FR l D cid m_G_isLost X 16) (FR l D cid m_G_isLost X 8)) := by
  refine SS.cons (so_aload_n hX d_G_isLost_0 rfl) ?_
  refine SS.cons (so_getf (C := R_P) (T := T_P) hX d_G_isLost_1 in_P rfl (by decide) k_105) ?_
  refine SS.cons (so_iconst hX d_G_isLost_4 (by decide)) ?_
  exact st_icmp_eq hX d_G_isLost_5 (by decide)
theorem b_G_isLost_8 {l : Launch} {D : va_G} {cid : Nat → ClassId} {X : CT} {Post : PT} (hX : OK l D cid m_G_isLost X Post) : SS l D cid m_G_isLost X 8 [o_aload 0, o_getf 2 1, o_push (.int 2)] (t_cmp (fun x y => ¬ x = y) (FR l D cid m_G_isLost X 20) (FR l D cid m_G_isLost X 16)) := by
  refine SS.cons (so_aload_n hX d_G_isLost_8 rfl) ?_
  refine SS.cons (so_getf (C := R_P) (T := T_P) hX d_G_isLost_9 in_P rfl (by decide) k_105) ?_
  refine SS.cons (so_iconst hX d_G_isLost_12 (by decide)) ?_
  exact st_icmp_ne hX d_G_isLost_13 (by decide)
theorem b_G_isLost_16 {l : Launch} {D : va_G} {cid : Nat → ClassId} {X : CT} {Post : PT} (hX : OK l D cid m_G_isLost X Post) : SS l D cid m_G_isLost X 16 [o_push (.int 1)] (FR l D cid m_G_isLost X 21) := by
  refine SS.cons (so_iconst hX d_G_isLost_16 (by decide)) ?_
  exact so_goto hX d_G_isLost_17 (by decide)
theorem b_G_isLost_20 {l : Launch} {D : va_G} {cid : Nat → ClassId} {X : CT} {Post : PT} (hX : OK l D cid m_G_isLost X Post) : SS l D cid m_G_isLost X 20 [o_push (.int 0)] (FR l D cid m_G_isLost X 21) := by
  refine SS.cons (so_iconst hX d_G_isLost_20 (by decide)) ?_
  exact SS.fall
theorem b_G_isLost_21 {l : Launch} {D : va_G} {cid : Nat → ClassId} {X : CT} {Post : PT} (hX : OK l D cid m_G_isLost X Post) : SS l D cid m_G_isLost X 21 [] (t_zret Post) := by
  exact st_zret hX d_G_isLost_21 rfl
abbrev m_G_othersLost : MT := (⟨"GroupLog", "othersLost", "(LGroupLog$Replica;)I"⟩, prog_1_method_27_code, 4, (some FieldType.int), { frames := 1, cells := 0, slots := 0, locals := 20 })
theorem pf_G_othersLost : plainFor m_G_othersLost.1 = true := by decide +kernel
theorem d_G_othersLost_0 : decode prog_1_method_27_code 0 = .ok (.iconst 0, 1) := by decide +kernel
theorem d_G_othersLost_1 : decode prog_1_method_27_code 1 = .ok (.istore_n 2, 1) := by decide +kernel
theorem d_G_othersLost_2 : decode prog_1_method_27_code 2 = .ok (.iconst 0, 1) := by decide +kernel
theorem d_G_othersLost_3 : decode prog_1_method_27_code 3 = .ok (.istore_n 3, 1) := by decide +kernel
theorem d_G_othersLost_4 : decode prog_1_method_27_code 4 = .ok (.iload_n 3, 1) := by decide +kernel
theorem d_G_othersLost_5 : decode prog_1_method_27_code 5 = .ok (.aload_n 0, 1) := by decide +kernel
theorem d_G_othersLost_6 : decode prog_1_method_27_code 6 = .ok (.getfield 29, 3) := by decide +kernel
theorem d_G_othersLost_9 : decode prog_1_method_27_code 9 = .ok (.if_icmp .ge 32, 3) := by decide +kernel
theorem d_G_othersLost_12 : decode prog_1_method_27_code 12 = .ok (.iload_n 3, 1) := by decide +kernel
theorem d_G_othersLost_13 : decode prog_1_method_27_code 13 = .ok (.aload_n 1, 1) := by decide +kernel
theorem d_G_othersLost_14 : decode prog_1_method_27_code 14 = .ok (.getfield 122, 3) := by decide +kernel
theorem d_G_othersLost_17 : decode prog_1_method_27_code 17 = .ok (.if_icmp .eq 18, 3) := by decide +kernel
theorem d_G_othersLost_20 : decode prog_1_method_27_code 20 = .ok (.aload_n 0, 1) := by decide +kernel
theorem d_G_othersLost_21 : decode prog_1_method_27_code 21 = .ok (.getfield 37, 3) := by decide +kernel
theorem d_G_othersLost_24 : decode prog_1_method_27_code 24 = .ok (.iload_n 3, 1) := by decide +kernel
theorem d_G_othersLost_25 : decode prog_1_method_27_code 25 = .ok (.aaload, 1) := by decide +kernel
theorem d_G_othersLost_26 : decode prog_1_method_27_code 26 = .ok (.invokestatic 113, 3) := by decide +kernel
theorem d_G_othersLost_29 : decode prog_1_method_27_code 29 = .ok (.ifCond .eq 6, 3) := by decide +kernel
theorem d_G_othersLost_32 : decode prog_1_method_27_code 32 = .ok (.iinc 2 1, 3) := by decide +kernel
theorem d_G_othersLost_35 : decode prog_1_method_27_code 35 = .ok (.iinc 3 1, 3) := by decide +kernel
theorem d_G_othersLost_38 : decode prog_1_method_27_code 38 = .ok (.goto (-34), 3) := by decide +kernel
theorem d_G_othersLost_41 : decode prog_1_method_27_code 41 = .ok (.iload_n 2, 1) := by decide +kernel
theorem d_G_othersLost_42 : decode prog_1_method_27_code 42 = .ok (.ireturn, 1) := by decide +kernel
theorem b_G_othersLost_0 {l : Launch} {D : va_G} {cid : Nat → ClassId} {X : CT} {Post : PT} (hX : OK l D cid m_G_othersLost X Post) : SS l D cid m_G_othersLost X 0 [o_push (.int 0), o_istore 2, o_push (.int 0), o_istore 3] (FR l D cid m_G_othersLost X 4) := by
  refine SS.cons (so_iconst hX d_G_othersLost_0 (by decide)) ?_
  refine SS.cons (so_istore_n hX d_G_othersLost_1 rfl (by decide)) ?_
  refine SS.cons (so_iconst hX d_G_othersLost_2 (by decide)) ?_
  refine SS.cons (so_istore_n hX d_G_othersLost_3 rfl (by decide)) ?_
  exact SS.fall
theorem b_G_othersLost_4 {l : Launch} {D : va_G} {cid : Nat → ClassId} {X : CT} {Post : PT} (hX : OK l D cid m_G_othersLost X Post) : SS l D cid m_G_othersLost X 4 [o_iload 3, o_aload 0, o_getf 3 0] (t_cmp (fun x y => y ≤ x) (FR l D cid m_G_othersLost X 41) (FR l D cid m_G_othersLost X 12)) := by
  refine SS.cons (so_iload_n hX d_G_othersLost_4 rfl) ?_
  refine SS.cons (so_aload_n hX d_G_othersLost_5 rfl) ?_
  refine SS.cons (so_getf (C := R_G) (T := T_G) hX d_G_othersLost_6 in_G rfl (by decide) k_159) ?_
  exact st_icmp_ge hX d_G_othersLost_9 (by decide)
theorem b_G_othersLost_12 {l : Launch} {D : va_G} {cid : Nat → ClassId} {X : CT} {Post : PT} (hX : OK l D cid m_G_othersLost X Post) : SS l D cid m_G_othersLost X 12 [o_iload 3, o_aload 1, o_getf 2 0] (t_cmp (fun x y => x = y) (FR l D cid m_G_othersLost X 35) (FR l D cid m_G_othersLost X 20)) := by
  refine SS.cons (so_iload_n hX d_G_othersLost_12 rfl) ?_
  refine SS.cons (so_aload_n hX d_G_othersLost_13 rfl) ?_
  refine SS.cons (so_getf (C := R_P) (T := T_P) hX d_G_othersLost_14 in_P rfl (by decide) k_103) ?_
  exact st_icmp_eq hX d_G_othersLost_17 (by decide)
theorem b_G_othersLost_20 {l : Launch} {D : va_G} {cid : Nat → ClassId} {X : CT} {Post : PT} (hX : OK l D cid m_G_othersLost X Post) : SS l D cid m_G_othersLost X 20 [o_aload 0, o_getf 3 2, o_iload 3, o_aldq 3, o_callS l D cid m_G_isLost 1] (t_if (fun x => x = 0) (FR l D cid m_G_othersLost X 35) (FR l D cid m_G_othersLost X 32)) := by
  refine SS.cons (so_aload_n hX d_G_othersLost_20 rfl) ?_
  refine SS.cons (so_getf (C := R_G) (T := T_G) hX d_G_othersLost_21 in_G rfl (by decide) k_161) ?_
  refine SS.cons (so_iload_n hX d_G_othersLost_24 rfl) ?_
  refine SS.cons (so_aldq hX d_G_othersLost_25 rfl) ?_
  refine SS.cons (so_callS (M' := m_G_isLost) hX d_G_othersLost_26 k_415 k_413 k_414 k_45 pf_G_isLost (by decide) (by decide +kernel) ⟨by decide, by decide⟩) ?_
  exact st_if_eq hX d_G_othersLost_29 (by decide)
theorem b_G_othersLost_32 {l : Launch} {D : va_G} {cid : Nat → ClassId} {X : CT} {Post : PT} (hX : OK l D cid m_G_othersLost X Post) : SS l D cid m_G_othersLost X 32 [o_iinc 2 1] (FR l D cid m_G_othersLost X 35) := by
  refine SS.cons (so_iinc hX d_G_othersLost_32 (by decide) (by decide)) ?_
  exact SS.fall
theorem b_G_othersLost_35 {l : Launch} {D : va_G} {cid : Nat → ClassId} {X : CT} {Post : PT} (hX : OK l D cid m_G_othersLost X Post) : SS l D cid m_G_othersLost X 35 [o_iinc 3 1] (FR l D cid m_G_othersLost X 4) := by
  refine SS.cons (so_iinc hX d_G_othersLost_35 (by decide) (by decide)) ?_
  exact so_goto hX d_G_othersLost_38 (by decide)
theorem b_G_othersLost_41 {l : Launch} {D : va_G} {cid : Nat → ClassId} {X : CT} {Post : PT} (hX : OK l D cid m_G_othersLost X Post) : SS l D cid m_G_othersLost X 41 [o_iload 2] (t_iret Post) := by
  refine SS.cons (so_iload_n hX d_G_othersLost_41 rfl) ?_
  exact st_iret hX d_G_othersLost_42 rfl
abbrev m_G_crash : MT := (⟨"GroupLog", "crash", "(I)Z"⟩, prog_1_method_7_code, 3, (some FieldType.boolean), { frames := 3, cells := 2, slots := 70, locals := 60 })
theorem pf_G_crash : plainFor m_G_crash.1 = true := by decide +kernel
theorem d_G_crash_0 : decode prog_1_method_7_code 0 = .ok (.aload_n 0, 1) := by decide +kernel
theorem d_G_crash_1 : decode prog_1_method_7_code 1 = .ok (.iload_n 1, 1) := by decide +kernel
theorem d_G_crash_2 : decode prog_1_method_7_code 2 = .ok (.invokevirtual 44, 3) := by decide +kernel
theorem d_G_crash_5 : decode prog_1_method_7_code 5 = .ok (.ifCond .ne 5, 3) := by decide +kernel
theorem d_G_crash_8 : decode prog_1_method_7_code 8 = .ok (.iconst 0, 1) := by decide +kernel
theorem d_G_crash_9 : decode prog_1_method_7_code 9 = .ok (.ireturn, 1) := by decide +kernel
theorem d_G_crash_10 : decode prog_1_method_7_code 10 = .ok (.aload_n 0, 1) := by decide +kernel
theorem d_G_crash_11 : decode prog_1_method_7_code 11 = .ok (.getfield 37, 3) := by decide +kernel
theorem d_G_crash_14 : decode prog_1_method_7_code 14 = .ok (.iload_n 1, 1) := by decide +kernel
theorem d_G_crash_15 : decode prog_1_method_7_code 15 = .ok (.aaload, 1) := by decide +kernel
theorem d_G_crash_16 : decode prog_1_method_7_code 16 = .ok (.astore_n 2, 1) := by decide +kernel
theorem d_G_crash_17 : decode prog_1_method_7_code 17 = .ok (.aload_n 2, 1) := by decide +kernel
theorem d_G_crash_18 : decode prog_1_method_7_code 18 = .ok (.getfield 97, 3) := by decide +kernel
theorem d_G_crash_21 : decode prog_1_method_7_code 21 = .ok (.iconst 3, 1) := by decide +kernel
theorem d_G_crash_22 : decode prog_1_method_7_code 22 = .ok (.if_icmp .eq 15, 3) := by decide +kernel
theorem d_G_crash_25 : decode prog_1_method_7_code 25 = .ok (.aload_n 0, 1) := by decide +kernel
theorem d_G_crash_26 : decode prog_1_method_7_code 26 = .ok (.aload_n 2, 1) := by decide +kernel
theorem d_G_crash_27 : decode prog_1_method_7_code 27 = .ok (.invokevirtual 106, 3) := by decide +kernel
theorem d_G_crash_30 : decode prog_1_method_7_code 30 = .ok (.aload_n 0, 1) := by decide +kernel
theorem d_G_crash_31 : decode prog_1_method_7_code 31 = .ok (.getfield 32, 3) := by decide +kernel
theorem d_G_crash_34 : decode prog_1_method_7_code 34 = .ok (.if_icmp .lt 5, 3) := by decide +kernel
theorem d_G_crash_37 : decode prog_1_method_7_code 37 = .ok (.iconst 0, 1) := by decide +kernel
theorem d_G_crash_38 : decode prog_1_method_7_code 38 = .ok (.ireturn, 1) := by decide +kernel
theorem d_G_crash_39 : decode prog_1_method_7_code 39 = .ok (.aload_n 2, 1) := by decide +kernel
theorem d_G_crash_40 : decode prog_1_method_7_code 40 = .ok (.invokevirtual 110, 3) := by decide +kernel
theorem d_G_crash_43 : decode prog_1_method_7_code 43 = .ok (.aload_n 2, 1) := by decide +kernel
theorem d_G_crash_44 : decode prog_1_method_7_code 44 = .ok (.iconst 3, 1) := by decide +kernel
theorem d_G_crash_45 : decode prog_1_method_7_code 45 = .ok (.putfield 97, 3) := by decide +kernel
theorem d_G_crash_48 : decode prog_1_method_7_code 48 = .ok (.iconst 1, 1) := by decide +kernel
theorem d_G_crash_49 : decode prog_1_method_7_code 49 = .ok (.ireturn, 1) := by decide +kernel
theorem b_G_crash_0 {l : Launch} {D : va_G} {cid : Nat → ClassId} {X : CT} {Post : PT} (hX : OK l D cid m_G_crash X Post) : SS l D cid m_G_crash X 0 [o_aload 0, o_iload 1, o_callV l D cid m_G_isReplica 3 1] (t_if (fun x => ¬ x = 0) (FR l D cid m_G_crash X 10) (FR l D cid m_G_crash X 8)) := by
  refine SS.cons (so_aload_n hX d_G_crash_0 rfl) ?_
  refine SS.cons (so_iload_n hX d_G_crash_1 rfl) ?_
  refine SS.cons (so_callV (M' := m_G_isReplica) (T := T_G) hX d_G_crash_2 rfl k_191 k_188 k_190 k_0 k_45 pf_G_isReplica (by decide) (by decide +kernel) ⟨by decide, by decide⟩) ?_
  exact st_if_ne hX d_G_crash_5 (by decide)
theorem b_G_crash_8 {l : Launch} {D : va_G} {cid : Nat → ClassId} {X : CT} {Post : PT} (hX : OK l D cid m_G_crash X Post) : SS l D cid m_G_crash X 8 [o_push (.int 0)] (t_zret Post) := by
  refine SS.cons (so_iconst hX d_G_crash_8 (by decide)) ?_
  exact st_zret hX d_G_crash_9 rfl
theorem b_G_crash_10 {l : Launch} {D : va_G} {cid : Nat → ClassId} {X : CT} {Post : PT} (hX : OK l D cid m_G_crash X Post) : SS l D cid m_G_crash X 10 [o_aload 0, o_getf 3 2, o_iload 1, o_aldq 3, o_astore 2, o_aload 2, o_getf 2 1, o_push (.int 3)] (t_cmp (fun x y => x = y) (FR l D cid m_G_crash X 37) (FR l D cid m_G_crash X 25)) := by
  refine SS.cons (so_aload_n hX d_G_crash_10 rfl) ?_
  refine SS.cons (so_getf (C := R_G) (T := T_G) hX d_G_crash_11 in_G rfl (by decide) k_161) ?_
  refine SS.cons (so_iload_n hX d_G_crash_14 rfl) ?_
  refine SS.cons (so_aldq hX d_G_crash_15 rfl) ?_
  refine SS.cons (so_astore_n hX d_G_crash_16 rfl (by decide)) ?_
  refine SS.cons (so_aload_n hX d_G_crash_17 rfl) ?_
  refine SS.cons (so_getf (C := R_P) (T := T_P) hX d_G_crash_18 in_P rfl (by decide) k_105) ?_
  refine SS.cons (so_iconst hX d_G_crash_21 (by decide)) ?_
  exact st_icmp_eq hX d_G_crash_22 (by decide)
theorem b_G_crash_25 {l : Launch} {D : va_G} {cid : Nat → ClassId} {X : CT} {Post : PT} (hX : OK l D cid m_G_crash X Post) : SS l D cid m_G_crash X 25 [o_aload 0, o_aload 2, o_callV l D cid m_G_othersLost 3 1, o_aload 0, o_getf 3 1] (t_cmp (fun x y => x < y) (FR l D cid m_G_crash X 39) (FR l D cid m_G_crash X 37)) := by
  refine SS.cons (so_aload_n hX d_G_crash_25 rfl) ?_
  refine SS.cons (so_aload_n hX d_G_crash_26 rfl) ?_
  refine SS.cons (so_callV (M' := m_G_othersLost) (T := T_G) hX d_G_crash_27 rfl k_412 k_409 k_411 k_20 k_45 pf_G_othersLost (by decide) (by decide +kernel) ⟨by decide, by decide⟩) ?_
  refine SS.cons (so_aload_n hX d_G_crash_30 rfl) ?_
  refine SS.cons (so_getf (C := R_G) (T := T_G) hX d_G_crash_31 in_G rfl (by decide) k_160) ?_
  exact st_icmp_lt hX d_G_crash_34 (by decide)
theorem b_G_crash_37 {l : Launch} {D : va_G} {cid : Nat → ClassId} {X : CT} {Post : PT} (hX : OK l D cid m_G_crash X Post) : SS l D cid m_G_crash X 37 [o_push (.int 0)] (t_zret Post) := by
  refine SS.cons (so_iconst hX d_G_crash_37 (by decide)) ?_
  exact st_zret hX d_G_crash_38 rfl
theorem b_G_crash_39 {l : Launch} {D : va_G} {cid : Nat → ClassId} {X : CT} {Post : PT} (hX : OK l D cid m_G_crash X Post) : SS l D cid m_G_crash X 39 [o_aload 2, o_callV l D cid m_P_forgetEverything 2 0, o_aload 2, o_push (.int 3), o_put okI 2 1, o_push (.int 1)] (t_zret Post) := by
  refine SS.cons (so_aload_n hX d_G_crash_39 rfl) ?_
  refine SS.cons (so_callV (M' := m_P_forgetEverything) (T := T_P) hX d_G_crash_40 rfl k_419 k_416 k_417 k_418 k_46 pf_P_forgetEverything (by decide) (by decide +kernel) ⟨by decide, by decide⟩) ?_
  refine SS.cons (so_aload_n hX d_G_crash_43 rfl) ?_
  refine SS.cons (so_iconst hX d_G_crash_44 (by decide)) ?_
  refine SS.cons (so_put (C := R_P) (T := T_P) ok_I hX d_G_crash_45 in_P ty_P nm_P rfl (by decide) k_105 rfl rfl) ?_
  refine SS.cons (so_iconst hX d_G_crash_48 (by decide)) ?_
  exact st_zret hX d_G_crash_49 rfl
abbrev m_G_recover : MT := (⟨"GroupLog", "recover", "(II)Z"⟩, prog_1_method_8_code, 4, (some FieldType.boolean), { frames := 4, cells := 7, slots := 110, locals := 89 })
theorem pf_G_recover : plainFor m_G_recover.1 = true := by decide +kernel
theorem d_G_recover_0 : decode prog_1_method_8_code 0 = .ok (.aload_n 0, 1) := by decide +kernel
theorem d_G_recover_1 : decode prog_1_method_8_code 1 = .ok (.iload_n 1, 1) := by decide +kernel
theorem d_G_recover_2 : decode prog_1_method_8_code 2 = .ok (.invokevirtual 44, 3) := by decide +kernel
theorem d_G_recover_5 : decode prog_1_method_8_code 5 = .ok (.ifCond .ne 5, 3) := by decide +kernel
theorem d_G_recover_8 : decode prog_1_method_8_code 8 = .ok (.iconst 0, 1) := by decide +kernel
theorem d_G_recover_9 : decode prog_1_method_8_code 9 = .ok (.ireturn, 1) := by decide +kernel
theorem d_G_recover_10 : decode prog_1_method_8_code 10 = .ok (.aload_n 0, 1) := by decide +kernel
theorem d_G_recover_11 : decode prog_1_method_8_code 11 = .ok (.getfield 37, 3) := by decide +kernel
theorem d_G_recover_14 : decode prog_1_method_8_code 14 = .ok (.iload_n 1, 1) := by decide +kernel
theorem d_G_recover_15 : decode prog_1_method_8_code 15 = .ok (.aaload, 1) := by decide +kernel
theorem d_G_recover_16 : decode prog_1_method_8_code 16 = .ok (.astore_n 3, 1) := by decide +kernel
theorem d_G_recover_17 : decode prog_1_method_8_code 17 = .ok (.aload_n 3, 1) := by decide +kernel
theorem d_G_recover_18 : decode prog_1_method_8_code 18 = .ok (.invokestatic 113, 3) := by decide +kernel
theorem d_G_recover_21 : decode prog_1_method_8_code 21 = .ok (.ifCond .eq 11, 3) := by decide +kernel
theorem d_G_recover_24 : decode prog_1_method_8_code 24 = .ok (.iload_n 2, 1) := by decide +kernel
theorem d_G_recover_25 : decode prog_1_method_8_code 25 = .ok (.aload_n 3, 1) := by decide +kernel
theorem d_G_recover_26 : decode prog_1_method_8_code 26 = .ok (.getfield 116, 3) := by decide +kernel
theorem d_G_recover_29 : decode prog_1_method_8_code 29 = .ok (.if_icmp .gt 5, 3) := by decide +kernel
theorem d_G_recover_32 : decode prog_1_method_8_code 32 = .ok (.iconst 0, 1) := by decide +kernel
theorem d_G_recover_33 : decode prog_1_method_8_code 33 = .ok (.ireturn, 1) := by decide +kernel
theorem d_G_recover_34 : decode prog_1_method_8_code 34 = .ok (.aload_n 3, 1) := by decide +kernel
theorem d_G_recover_35 : decode prog_1_method_8_code 35 = .ok (.iload_n 2, 1) := by decide +kernel
theorem d_G_recover_36 : decode prog_1_method_8_code 36 = .ok (.putfield 116, 3) := by decide +kernel
theorem d_G_recover_39 : decode prog_1_method_8_code 39 = .ok (.aload_n 3, 1) := by decide +kernel
theorem d_G_recover_40 : decode prog_1_method_8_code 40 = .ok (.invokevirtual 110, 3) := by decide +kernel
theorem d_G_recover_43 : decode prog_1_method_8_code 43 = .ok (.aload_n 3, 1) := by decide +kernel
theorem d_G_recover_44 : decode prog_1_method_8_code 44 = .ok (.iconst 2, 1) := by decide +kernel
theorem d_G_recover_45 : decode prog_1_method_8_code 45 = .ok (.putfield 97, 3) := by decide +kernel
theorem d_G_recover_48 : decode prog_1_method_8_code 48 = .ok (.aload_n 3, 1) := by decide +kernel
theorem d_G_recover_49 : decode prog_1_method_8_code 49 = .ok (.getfield 119, 3) := by decide +kernel
theorem d_G_recover_52 : decode prog_1_method_8_code 52 = .ok (.aload_n 3, 1) := by decide +kernel
theorem d_G_recover_53 : decode prog_1_method_8_code 53 = .ok (.getfield 122, 3) := by decide +kernel
theorem d_G_recover_56 : decode prog_1_method_8_code 56 = .ok (.iload_n 2, 1) := by decide +kernel
theorem d_G_recover_57 : decode prog_1_method_8_code 57 = .ok (.iastore, 1) := by decide +kernel
theorem d_G_recover_58 : decode prog_1_method_8_code 58 = .ok (.aload_n 0, 1) := by decide +kernel
theorem d_G_recover_59 : decode prog_1_method_8_code 59 = .ok (.aload_n 3, 1) := by decide +kernel
theorem d_G_recover_60 : decode prog_1_method_8_code 60 = .ok (.bipush 7, 2) := by decide +kernel
theorem d_G_recover_62 : decode prog_1_method_8_code 62 = .ok (.invokevirtual 79, 3) := by decide +kernel
theorem d_G_recover_65 : decode prog_1_method_8_code 65 = .ok (.iconst 1, 1) := by decide +kernel
theorem d_G_recover_66 : decode prog_1_method_8_code 66 = .ok (.ireturn, 1) := by decide +kernel
theorem b_G_recover_0 {l : Launch} {D : va_G} {cid : Nat → ClassId} {X : CT} {Post : PT} (hX : OK l D cid m_G_recover X Post) : SS l D cid m_G_recover X 0 [o_aload 0, o_iload 1, o_callV l D cid m_G_isReplica 3 1] (t_if (fun x => ¬ x = 0) (FR l D cid m_G_recover X 10) (FR l D cid m_G_recover X 8)) := by
  refine SS.cons (so_aload_n hX d_G_recover_0 rfl) ?_
  refine SS.cons (so_iload_n hX d_G_recover_1 rfl) ?_
  refine SS.cons (so_callV (M' := m_G_isReplica) (T := T_G) hX d_G_recover_2 rfl k_191 k_188 k_190 k_0 k_45 pf_G_isReplica (by decide) (by decide +kernel) ⟨by decide, by decide⟩) ?_
  exact st_if_ne hX d_G_recover_5 (by decide)
theorem b_G_recover_8 {l : Launch} {D : va_G} {cid : Nat → ClassId} {X : CT} {Post : PT} (hX : OK l D cid m_G_recover X Post) : SS l D cid m_G_recover X 8 [o_push (.int 0)] (t_zret Post) := by
  refine SS.cons (so_iconst hX d_G_recover_8 (by decide)) ?_
  exact st_zret hX d_G_recover_9 rfl
theorem b_G_recover_10 {l : Launch} {D : va_G} {cid : Nat → ClassId} {X : CT} {Post : PT} (hX : OK l D cid m_G_recover X Post) : SS l D cid m_G_recover X 10 [o_aload 0, o_getf 3 2, o_iload 1, o_aldq 3, o_astore 3, o_aload 3, o_callS l D cid m_G_isLost 1] (t_if (fun x => x = 0) (FR l D cid m_G_recover X 32) (FR l D cid m_G_recover X 24)) := by
  refine SS.cons (so_aload_n hX d_G_recover_10 rfl) ?_
  refine SS.cons (so_getf (C := R_G) (T := T_G) hX d_G_recover_11 in_G rfl (by decide) k_161) ?_
  refine SS.cons (so_iload_n hX d_G_recover_14 rfl) ?_
  refine SS.cons (so_aldq hX d_G_recover_15 rfl) ?_
  refine SS.cons (so_astore_n hX d_G_recover_16 rfl (by decide)) ?_
  refine SS.cons (so_aload_n hX d_G_recover_17 rfl) ?_
  refine SS.cons (so_callS (M' := m_G_isLost) hX d_G_recover_18 k_415 k_413 k_414 k_45 pf_G_isLost (by decide) (by decide +kernel) ⟨by decide, by decide⟩) ?_
  exact st_if_eq hX d_G_recover_21 (by decide)
theorem b_G_recover_24 {l : Launch} {D : va_G} {cid : Nat → ClassId} {X : CT} {Post : PT} (hX : OK l D cid m_G_recover X Post) : SS l D cid m_G_recover X 24 [o_iload 2, o_aload 3, o_getf 2 12] (t_cmp (fun x y => y < x) (FR l D cid m_G_recover X 34) (FR l D cid m_G_recover X 32)) := by
  refine SS.cons (so_iload_n hX d_G_recover_24 rfl) ?_
  refine SS.cons (so_aload_n hX d_G_recover_25 rfl) ?_
  refine SS.cons (so_getf (C := R_P) (T := T_P) hX d_G_recover_26 in_P rfl (by decide) k_131) ?_
  exact st_icmp_gt hX d_G_recover_29 (by decide)
theorem b_G_recover_32 {l : Launch} {D : va_G} {cid : Nat → ClassId} {X : CT} {Post : PT} (hX : OK l D cid m_G_recover X Post) : SS l D cid m_G_recover X 32 [o_push (.int 0)] (t_zret Post) := by
  refine SS.cons (so_iconst hX d_G_recover_32 (by decide)) ?_
  exact st_zret hX d_G_recover_33 rfl
theorem b_G_recover_34 {l : Launch} {D : va_G} {cid : Nat → ClassId} {X : CT} {Post : PT} (hX : OK l D cid m_G_recover X Post) : SS l D cid m_G_recover X 34 [o_aload 3, o_iload 2, o_put okI 2 12, o_aload 3, o_callV l D cid m_P_forgetEverything 2 0, o_aload 3, o_push (.int 2), o_put okI 2 1, o_aload 3, o_getf 2 6, o_aload 3, o_getf 2 0, o_iload 2, o_ast, o_aload 0, o_aload 3, o_push (.int 7), o_callV l D cid m_G_sendToAll 3 2, o_push (.int 1)] (t_zret Post) := by
  refine SS.cons (so_aload_n hX d_G_recover_34 rfl) ?_
  refine SS.cons (so_iload_n hX d_G_recover_35 rfl) ?_
  refine SS.cons (so_put (C := R_P) (T := T_P) ok_I hX d_G_recover_36 in_P ty_P nm_P rfl (by decide) k_131 rfl rfl) ?_
  refine SS.cons (so_aload_n hX d_G_recover_39 rfl) ?_
  refine SS.cons (so_callV (M' := m_P_forgetEverything) (T := T_P) hX d_G_recover_40 rfl k_419 k_416 k_417 k_418 k_46 pf_P_forgetEverything (by decide) (by decide +kernel) ⟨by decide, by decide⟩) ?_
  refine SS.cons (so_aload_n hX d_G_recover_43 rfl) ?_
  refine SS.cons (so_iconst hX d_G_recover_44 (by decide)) ?_
  refine SS.cons (so_put (C := R_P) (T := T_P) ok_I hX d_G_recover_45 in_P ty_P nm_P rfl (by decide) k_105 rfl rfl) ?_
  refine SS.cons (so_aload_n hX d_G_recover_48 rfl) ?_
  refine SS.cons (so_getf (C := R_P) (T := T_P) hX d_G_recover_49 in_P rfl (by decide) k_119) ?_
  refine SS.cons (so_aload_n hX d_G_recover_52 rfl) ?_
  refine SS.cons (so_getf (C := R_P) (T := T_P) hX d_G_recover_53 in_P rfl (by decide) k_103) ?_
  refine SS.cons (so_iload_n hX d_G_recover_56 rfl) ?_
  refine SS.cons (so_iast hX d_G_recover_57) ?_
  refine SS.cons (so_aload_n hX d_G_recover_58 rfl) ?_
  refine SS.cons (so_aload_n hX d_G_recover_59 rfl) ?_
  refine SS.cons (so_bipush hX d_G_recover_60 (by decide)) ?_
  refine SS.cons (so_callV (M' := m_G_sendToAll) (T := T_G) hX d_G_recover_62 rfl k_232 k_229 k_231 k_5 k_45 pf_G_sendToAll (by decide) (by decide +kernel) ⟨by decide, by decide⟩) ?_
  refine SS.cons (so_iconst hX d_G_recover_65 (by decide)) ?_
  exact st_zret hX d_G_recover_66 rfl
abbrev m_G_status : MT := (⟨"GroupLog", "status", "(I)I"⟩, prog_1_method_9_code, 2, (some FieldType.int), { frames := 1, cells := 0, slots := 0, locals := 21 })
theorem pf_G_status : plainFor m_G_status.1 = true := by decide +kernel
theorem d_G_status_0 : decode prog_1_method_9_code 0 = .ok (.aload_n 0, 1) := by decide +kernel
theorem d_G_status_1 : decode prog_1_method_9_code 1 = .ok (.iload_n 1, 1) := by decide +kernel
theorem d_G_status_2 : decode prog_1_method_9_code 2 = .ok (.invokevirtual 44, 3) := by decide +kernel
theorem d_G_status_5 : decode prog_1_method_9_code 5 = .ok (.ifCond .eq 15, 3) := by decide +kernel
theorem d_G_status_8 : decode prog_1_method_9_code 8 = .ok (.aload_n 0, 1) := by decide +kernel
theorem d_G_status_9 : decode prog_1_method_9_code 9 = .ok (.getfield 37, 3) := by decide +kernel
theorem d_G_status_12 : decode prog_1_method_9_code 12 = .ok (.iload_n 1, 1) := by decide +kernel
theorem d_G_status_13 : decode prog_1_method_9_code 13 = .ok (.aaload, 1) := by decide +kernel
theorem d_G_status_14 : decode prog_1_method_9_code 14 = .ok (.getfield 97, 3) := by decide +kernel
theorem d_G_status_17 : decode prog_1_method_9_code 17 = .ok (.goto 4, 3) := by decide +kernel
theorem d_G_status_20 : decode prog_1_method_9_code 20 = .ok (.iconst (-1), 1) := by decide +kernel
theorem d_G_status_21 : decode prog_1_method_9_code 21 = .ok (.ireturn, 1) := by decide +kernel
theorem b_G_status_0 {l : Launch} {D : va_G} {cid : Nat → ClassId} {X : CT} {Post : PT} (hX : OK l D cid m_G_status X Post) : SS l D cid m_G_status X 0 [o_aload 0, o_iload 1, o_callV l D cid m_G_isReplica 3 1] (t_if (fun x => x = 0) (FR l D cid m_G_status X 20) (FR l D cid m_G_status X 8)) := by
  refine SS.cons (so_aload_n hX d_G_status_0 rfl) ?_
  refine SS.cons (so_iload_n hX d_G_status_1 rfl) ?_
  refine SS.cons (so_callV (M' := m_G_isReplica) (T := T_G) hX d_G_status_2 rfl k_191 k_188 k_190 k_0 k_45 pf_G_isReplica (by decide) (by decide +kernel) ⟨by decide, by decide⟩) ?_
  exact st_if_eq hX d_G_status_5 (by decide)
theorem b_G_status_8 {l : Launch} {D : va_G} {cid : Nat → ClassId} {X : CT} {Post : PT} (hX : OK l D cid m_G_status X Post) : SS l D cid m_G_status X 8 [o_aload 0, o_getf 3 2, o_iload 1, o_aldq 3, o_getf 2 1] (FR l D cid m_G_status X 21) := by
  refine SS.cons (so_aload_n hX d_G_status_8 rfl) ?_
  refine SS.cons (so_getf (C := R_G) (T := T_G) hX d_G_status_9 in_G rfl (by decide) k_161) ?_
  refine SS.cons (so_iload_n hX d_G_status_12 rfl) ?_
  refine SS.cons (so_aldq hX d_G_status_13 rfl) ?_
  refine SS.cons (so_getf (C := R_P) (T := T_P) hX d_G_status_14 in_P rfl (by decide) k_105) ?_
  exact so_goto hX d_G_status_17 (by decide)
theorem b_G_status_20 {l : Launch} {D : va_G} {cid : Nat → ClassId} {X : CT} {Post : PT} (hX : OK l D cid m_G_status X Post) : SS l D cid m_G_status X 20 [o_push (.int (-1))] (FR l D cid m_G_status X 21) := by
  refine SS.cons (so_iconst hX d_G_status_20 (by decide)) ?_
  exact SS.fall
theorem b_G_status_21 {l : Launch} {D : va_G} {cid : Nat → ClassId} {X : CT} {Post : PT} (hX : OK l D cid m_G_status X Post) : SS l D cid m_G_status X 21 [] (t_iret Post) := by
  exact st_iret hX d_G_status_21 rfl
abbrev m_G_view : MT := (⟨"GroupLog", "view", "(I)I"⟩, prog_1_method_10_code, 2, (some FieldType.int), { frames := 1, cells := 0, slots := 0, locals := 21 })
theorem pf_G_view : plainFor m_G_view.1 = true := by decide +kernel
theorem d_G_view_0 : decode prog_1_method_10_code 0 = .ok (.aload_n 0, 1) := by decide +kernel
theorem d_G_view_1 : decode prog_1_method_10_code 1 = .ok (.iload_n 1, 1) := by decide +kernel
theorem d_G_view_2 : decode prog_1_method_10_code 2 = .ok (.invokevirtual 44, 3) := by decide +kernel
theorem d_G_view_5 : decode prog_1_method_10_code 5 = .ok (.ifCond .eq 15, 3) := by decide +kernel
theorem d_G_view_8 : decode prog_1_method_10_code 8 = .ok (.aload_n 0, 1) := by decide +kernel
theorem d_G_view_9 : decode prog_1_method_10_code 9 = .ok (.getfield 37, 3) := by decide +kernel
theorem d_G_view_12 : decode prog_1_method_10_code 12 = .ok (.iload_n 1, 1) := by decide +kernel
theorem d_G_view_13 : decode prog_1_method_10_code 13 = .ok (.aaload, 1) := by decide +kernel
theorem d_G_view_14 : decode prog_1_method_10_code 14 = .ok (.getfield 100, 3) := by decide +kernel
theorem d_G_view_17 : decode prog_1_method_10_code 17 = .ok (.goto 4, 3) := by decide +kernel
theorem d_G_view_20 : decode prog_1_method_10_code 20 = .ok (.iconst (-1), 1) := by decide +kernel
theorem d_G_view_21 : decode prog_1_method_10_code 21 = .ok (.ireturn, 1) := by decide +kernel
theorem b_G_view_0 {l : Launch} {D : va_G} {cid : Nat → ClassId} {X : CT} {Post : PT} (hX : OK l D cid m_G_view X Post) : SS l D cid m_G_view X 0 [o_aload 0, o_iload 1, o_callV l D cid m_G_isReplica 3 1] (t_if (fun x => x = 0) (FR l D cid m_G_view X 20) (FR l D cid m_G_view X 8)) := by
  refine SS.cons (so_aload_n hX d_G_view_0 rfl) ?_
  refine SS.cons (so_iload_n hX d_G_view_1 rfl) ?_
  refine SS.cons (so_callV (M' := m_G_isReplica) (T := T_G) hX d_G_view_2 rfl k_191 k_188 k_190 k_0 k_45 pf_G_isReplica (by decide) (by decide +kernel) ⟨by decide, by decide⟩) ?_
  exact st_if_eq hX d_G_view_5 (by decide)
theorem b_G_view_8 {l : Launch} {D : va_G} {cid : Nat → ClassId} {X : CT} {Post : PT} (hX : OK l D cid m_G_view X Post) : SS l D cid m_G_view X 8 [o_aload 0, o_getf 3 2, o_iload 1, o_aldq 3, o_getf 2 2] (FR l D cid m_G_view X 21) := by
  refine SS.cons (so_aload_n hX d_G_view_8 rfl) ?_
  refine SS.cons (so_getf (C := R_G) (T := T_G) hX d_G_view_9 in_G rfl (by decide) k_161) ?_
  refine SS.cons (so_iload_n hX d_G_view_12 rfl) ?_
  refine SS.cons (so_aldq hX d_G_view_13 rfl) ?_
  refine SS.cons (so_getf (C := R_P) (T := T_P) hX d_G_view_14 in_P rfl (by decide) k_108) ?_
  exact so_goto hX d_G_view_17 (by decide)
theorem b_G_view_20 {l : Launch} {D : va_G} {cid : Nat → ClassId} {X : CT} {Post : PT} (hX : OK l D cid m_G_view X Post) : SS l D cid m_G_view X 20 [o_push (.int (-1))] (FR l D cid m_G_view X 21) := by
  refine SS.cons (so_iconst hX d_G_view_20 (by decide)) ?_
  exact SS.fall
theorem b_G_view_21 {l : Launch} {D : va_G} {cid : Nat → ClassId} {X : CT} {Post : PT} (hX : OK l D cid m_G_view X Post) : SS l D cid m_G_view X 21 [] (t_iret Post) := by
  exact st_iret hX d_G_view_21 rfl
abbrev m_G_length : MT := (⟨"GroupLog", "length", "(I)I"⟩, prog_1_method_11_code, 2, (some FieldType.int), { frames := 1, cells := 0, slots := 0, locals := 21 })
theorem pf_G_length : plainFor m_G_length.1 = true := by decide +kernel
theorem d_G_length_0 : decode prog_1_method_11_code 0 = .ok (.aload_n 0, 1) := by decide +kernel
theorem d_G_length_1 : decode prog_1_method_11_code 1 = .ok (.iload_n 1, 1) := by decide +kernel
theorem d_G_length_2 : decode prog_1_method_11_code 2 = .ok (.invokevirtual 44, 3) := by decide +kernel
theorem d_G_length_5 : decode prog_1_method_11_code 5 = .ok (.ifCond .eq 18, 3) := by decide +kernel
theorem d_G_length_8 : decode prog_1_method_11_code 8 = .ok (.aload_n 0, 1) := by decide +kernel
theorem d_G_length_9 : decode prog_1_method_11_code 9 = .ok (.getfield 37, 3) := by decide +kernel
theorem d_G_length_12 : decode prog_1_method_11_code 12 = .ok (.iload_n 1, 1) := by decide +kernel
theorem d_G_length_13 : decode prog_1_method_11_code 13 = .ok (.aaload, 1) := by decide +kernel
theorem d_G_length_14 : decode prog_1_method_11_code 14 = .ok (.getfield 55, 3) := by decide +kernel
theorem d_G_length_17 : decode prog_1_method_11_code 17 = .ok (.getfield 73, 3) := by decide +kernel
theorem d_G_length_20 : decode prog_1_method_11_code 20 = .ok (.goto 4, 3) := by decide +kernel
theorem d_G_length_23 : decode prog_1_method_11_code 23 = .ok (.iconst (-1), 1) := by decide +kernel
theorem d_G_length_24 : decode prog_1_method_11_code 24 = .ok (.ireturn, 1) := by decide +kernel
theorem b_G_length_0 {l : Launch} {D : va_G} {cid : Nat → ClassId} {X : CT} {Post : PT} (hX : OK l D cid m_G_length X Post) : SS l D cid m_G_length X 0 [o_aload 0, o_iload 1, o_callV l D cid m_G_isReplica 3 1] (t_if (fun x => x = 0) (FR l D cid m_G_length X 23) (FR l D cid m_G_length X 8)) := by
  refine SS.cons (so_aload_n hX d_G_length_0 rfl) ?_
  refine SS.cons (so_iload_n hX d_G_length_1 rfl) ?_
  refine SS.cons (so_callV (M' := m_G_isReplica) (T := T_G) hX d_G_length_2 rfl k_191 k_188 k_190 k_0 k_45 pf_G_isReplica (by decide) (by decide +kernel) ⟨by decide, by decide⟩) ?_
  exact st_if_eq hX d_G_length_5 (by decide)
theorem b_G_length_8 {l : Launch} {D : va_G} {cid : Nat → ClassId} {X : CT} {Post : PT} (hX : OK l D cid m_G_length X Post) : SS l D cid m_G_length X 8 [o_aload 0, o_getf 3 2, o_iload 1, o_aldq 3, o_getf 2 4, o_getf 0 1] (FR l D cid m_G_length X 24) := by
  refine SS.cons (so_aload_n hX d_G_length_8 rfl) ?_
  refine SS.cons (so_getf (C := R_G) (T := T_G) hX d_G_length_9 in_G rfl (by decide) k_161) ?_
  refine SS.cons (so_iload_n hX d_G_length_12 rfl) ?_
  refine SS.cons (so_aldq hX d_G_length_13 rfl) ?_
  refine SS.cons (so_getf (C := R_P) (T := T_P) hX d_G_length_14 in_P rfl (by decide) k_113) ?_
  refine SS.cons (so_getf (C := R_L) (T := T_L) hX d_G_length_17 in_L rfl (by decide) k_76) ?_
  exact so_goto hX d_G_length_20 (by decide)
theorem b_G_length_23 {l : Launch} {D : va_G} {cid : Nat → ClassId} {X : CT} {Post : PT} (hX : OK l D cid m_G_length X Post) : SS l D cid m_G_length X 23 [o_push (.int (-1))] (FR l D cid m_G_length X 24) := by
  refine SS.cons (so_iconst hX d_G_length_23 (by decide)) ?_
  exact SS.fall
theorem b_G_length_24 {l : Launch} {D : va_G} {cid : Nat → ClassId} {X : CT} {Post : PT} (hX : OK l D cid m_G_length X Post) : SS l D cid m_G_length X 24 [] (t_iret Post) := by
  exact st_iret hX d_G_length_24 rfl
abbrev m_G_commit : MT := (⟨"GroupLog", "commit", "(I)I"⟩, prog_1_method_12_code, 2, (some FieldType.int), { frames := 1, cells := 0, slots := 0, locals := 21 })
theorem pf_G_commit : plainFor m_G_commit.1 = true := by decide +kernel
theorem d_G_commit_0 : decode prog_1_method_12_code 0 = .ok (.aload_n 0, 1) := by decide +kernel
theorem d_G_commit_1 : decode prog_1_method_12_code 1 = .ok (.iload_n 1, 1) := by decide +kernel
theorem d_G_commit_2 : decode prog_1_method_12_code 2 = .ok (.invokevirtual 44, 3) := by decide +kernel
theorem d_G_commit_5 : decode prog_1_method_12_code 5 = .ok (.ifCond .eq 15, 3) := by decide +kernel
theorem d_G_commit_8 : decode prog_1_method_12_code 8 = .ok (.aload_n 0, 1) := by decide +kernel
theorem d_G_commit_9 : decode prog_1_method_12_code 9 = .ok (.getfield 37, 3) := by decide +kernel
theorem d_G_commit_12 : decode prog_1_method_12_code 12 = .ok (.iload_n 1, 1) := by decide +kernel
theorem d_G_commit_13 : decode prog_1_method_12_code 13 = .ok (.aaload, 1) := by decide +kernel
theorem d_G_commit_14 : decode prog_1_method_12_code 14 = .ok (.getfield 125, 3) := by decide +kernel
theorem d_G_commit_17 : decode prog_1_method_12_code 17 = .ok (.goto 4, 3) := by decide +kernel
theorem d_G_commit_20 : decode prog_1_method_12_code 20 = .ok (.iconst (-1), 1) := by decide +kernel
theorem d_G_commit_21 : decode prog_1_method_12_code 21 = .ok (.ireturn, 1) := by decide +kernel
theorem b_G_commit_0 {l : Launch} {D : va_G} {cid : Nat → ClassId} {X : CT} {Post : PT} (hX : OK l D cid m_G_commit X Post) : SS l D cid m_G_commit X 0 [o_aload 0, o_iload 1, o_callV l D cid m_G_isReplica 3 1] (t_if (fun x => x = 0) (FR l D cid m_G_commit X 20) (FR l D cid m_G_commit X 8)) := by
  refine SS.cons (so_aload_n hX d_G_commit_0 rfl) ?_
  refine SS.cons (so_iload_n hX d_G_commit_1 rfl) ?_
  refine SS.cons (so_callV (M' := m_G_isReplica) (T := T_G) hX d_G_commit_2 rfl k_191 k_188 k_190 k_0 k_45 pf_G_isReplica (by decide) (by decide +kernel) ⟨by decide, by decide⟩) ?_
  exact st_if_eq hX d_G_commit_5 (by decide)
theorem b_G_commit_8 {l : Launch} {D : va_G} {cid : Nat → ClassId} {X : CT} {Post : PT} (hX : OK l D cid m_G_commit X Post) : SS l D cid m_G_commit X 8 [o_aload 0, o_getf 3 2, o_iload 1, o_aldq 3, o_getf 2 5] (FR l D cid m_G_commit X 21) := by
  refine SS.cons (so_aload_n hX d_G_commit_8 rfl) ?_
  refine SS.cons (so_getf (C := R_G) (T := T_G) hX d_G_commit_9 in_G rfl (by decide) k_161) ?_
  refine SS.cons (so_iload_n hX d_G_commit_12 rfl) ?_
  refine SS.cons (so_aldq hX d_G_commit_13 rfl) ?_
  refine SS.cons (so_getf (C := R_P) (T := T_P) hX d_G_commit_14 in_P rfl (by decide) k_116) ?_
  exact so_goto hX d_G_commit_17 (by decide)
theorem b_G_commit_20 {l : Launch} {D : va_G} {cid : Nat → ClassId} {X : CT} {Post : PT} (hX : OK l D cid m_G_commit X Post) : SS l D cid m_G_commit X 20 [o_push (.int (-1))] (FR l D cid m_G_commit X 21) := by
  refine SS.cons (so_iconst hX d_G_commit_20 (by decide)) ?_
  exact SS.fall
theorem b_G_commit_21 {l : Launch} {D : va_G} {cid : Nat → ClassId} {X : CT} {Post : PT} (hX : OK l D cid m_G_commit X Post) : SS l D cid m_G_commit X 21 [] (t_iret Post) := by
  exact st_iret hX d_G_commit_21 rfl
abbrev m_G_hasEntry : MT := (⟨"GroupLog", "hasEntry", "(II)Z"⟩, prog_1_method_23_code, 3, (some FieldType.boolean), { frames := 1, cells := 0, slots := 0, locals := 21 })
theorem pf_G_hasEntry : plainFor m_G_hasEntry.1 = true := by decide +kernel
theorem d_G_hasEntry_0 : decode prog_1_method_23_code 0 = .ok (.aload_n 0, 1) := by decide +kernel
theorem d_G_hasEntry_1 : decode prog_1_method_23_code 1 = .ok (.iload_n 1, 1) := by decide +kernel
theorem d_G_hasEntry_2 : decode prog_1_method_23_code 2 = .ok (.invokevirtual 44, 3) := by decide +kernel
theorem d_G_hasEntry_5 : decode prog_1_method_23_code 5 = .ok (.ifCond .eq 27, 3) := by decide +kernel
theorem d_G_hasEntry_8 : decode prog_1_method_23_code 8 = .ok (.iload_n 2, 1) := by decide +kernel
theorem d_G_hasEntry_9 : decode prog_1_method_23_code 9 = .ok (.ifCond .lt 23, 3) := by decide +kernel
theorem d_G_hasEntry_12 : decode prog_1_method_23_code 12 = .ok (.iload_n 2, 1) := by decide +kernel
theorem d_G_hasEntry_13 : decode prog_1_method_23_code 13 = .ok (.aload_n 0, 1) := by decide +kernel
theorem d_G_hasEntry_14 : decode prog_1_method_23_code 14 = .ok (.getfield 37, 3) := by decide +kernel
theorem d_G_hasEntry_17 : decode prog_1_method_23_code 17 = .ok (.iload_n 1, 1) := by decide +kernel
theorem d_G_hasEntry_18 : decode prog_1_method_23_code 18 = .ok (.aaload, 1) := by decide +kernel
theorem d_G_hasEntry_19 : decode prog_1_method_23_code 19 = .ok (.getfield 55, 3) := by decide +kernel
theorem d_G_hasEntry_22 : decode prog_1_method_23_code 22 = .ok (.getfield 73, 3) := by decide +kernel
theorem d_G_hasEntry_25 : decode prog_1_method_23_code 25 = .ok (.if_icmp .ge 7, 3) := by decide +kernel
theorem d_G_hasEntry_28 : decode prog_1_method_23_code 28 = .ok (.iconst 1, 1) := by decide +kernel
theorem d_G_hasEntry_29 : decode prog_1_method_23_code 29 = .ok (.goto 4, 3) := by decide +kernel
theorem d_G_hasEntry_32 : decode prog_1_method_23_code 32 = .ok (.iconst 0, 1) := by decide +kernel
theorem d_G_hasEntry_33 : decode prog_1_method_23_code 33 = .ok (.ireturn, 1) := by decide +kernel
theorem b_G_hasEntry_0 {l : Launch} {D : va_G} {cid : Nat → ClassId} {X : CT} {Post : PT} (hX : OK l D cid m_G_hasEntry X Post) : SS l D cid m_G_hasEntry X 0 [o_aload 0, o_iload 1, o_callV l D cid m_G_isReplica 3 1] (t_if (fun x => x = 0) (FR l D cid m_G_hasEntry X 32) (FR l D cid m_G_hasEntry X 8)) := by
  refine SS.cons (so_aload_n hX d_G_hasEntry_0 rfl) ?_
  refine SS.cons (so_iload_n hX d_G_hasEntry_1 rfl) ?_
  refine SS.cons (so_callV (M' := m_G_isReplica) (T := T_G) hX d_G_hasEntry_2 rfl k_191 k_188 k_190 k_0 k_45 pf_G_isReplica (by decide) (by decide +kernel) ⟨by decide, by decide⟩) ?_
  exact st_if_eq hX d_G_hasEntry_5 (by decide)
theorem b_G_hasEntry_8 {l : Launch} {D : va_G} {cid : Nat → ClassId} {X : CT} {Post : PT} (hX : OK l D cid m_G_hasEntry X Post) : SS l D cid m_G_hasEntry X 8 [o_iload 2] (t_if (fun x => x < 0) (FR l D cid m_G_hasEntry X 32) (FR l D cid m_G_hasEntry X 12)) := by
  refine SS.cons (so_iload_n hX d_G_hasEntry_8 rfl) ?_
  exact st_if_lt hX d_G_hasEntry_9 (by decide)
theorem b_G_hasEntry_12 {l : Launch} {D : va_G} {cid : Nat → ClassId} {X : CT} {Post : PT} (hX : OK l D cid m_G_hasEntry X Post) : SS l D cid m_G_hasEntry X 12 [o_iload 2, o_aload 0, o_getf 3 2, o_iload 1, o_aldq 3, o_getf 2 4, o_getf 0 1] (t_cmp (fun x y => y ≤ x) (FR l D cid m_G_hasEntry X 32) (FR l D cid m_G_hasEntry X 28)) := by
  refine SS.cons (so_iload_n hX d_G_hasEntry_12 rfl) ?_
  refine SS.cons (so_aload_n hX d_G_hasEntry_13 rfl) ?_
  refine SS.cons (so_getf (C := R_G) (T := T_G) hX d_G_hasEntry_14 in_G rfl (by decide) k_161) ?_
  refine SS.cons (so_iload_n hX d_G_hasEntry_17 rfl) ?_
  refine SS.cons (so_aldq hX d_G_hasEntry_18 rfl) ?_
  refine SS.cons (so_getf (C := R_P) (T := T_P) hX d_G_hasEntry_19 in_P rfl (by decide) k_113) ?_
  refine SS.cons (so_getf (C := R_L) (T := T_L) hX d_G_hasEntry_22 in_L rfl (by decide) k_76) ?_
  exact st_icmp_ge hX d_G_hasEntry_25 (by decide)
theorem b_G_hasEntry_28 {l : Launch} {D : va_G} {cid : Nat → ClassId} {X : CT} {Post : PT} (hX : OK l D cid m_G_hasEntry X Post) : SS l D cid m_G_hasEntry X 28 [o_push (.int 1)] (FR l D cid m_G_hasEntry X 33) := by
  refine SS.cons (so_iconst hX d_G_hasEntry_28 (by decide)) ?_
  exact so_goto hX d_G_hasEntry_29 (by decide)
theorem b_G_hasEntry_32 {l : Launch} {D : va_G} {cid : Nat → ClassId} {X : CT} {Post : PT} (hX : OK l D cid m_G_hasEntry X Post) : SS l D cid m_G_hasEntry X 32 [o_push (.int 0)] (FR l D cid m_G_hasEntry X 33) := by
  refine SS.cons (so_iconst hX d_G_hasEntry_32 (by decide)) ?_
  exact SS.fall
theorem b_G_hasEntry_33 {l : Launch} {D : va_G} {cid : Nat → ClassId} {X : CT} {Post : PT} (hX : OK l D cid m_G_hasEntry X Post) : SS l D cid m_G_hasEntry X 33 [] (t_zret Post) := by
  exact st_zret hX d_G_hasEntry_33 rfl
abbrev m_G_entry : MT := (⟨"GroupLog", "entry", "(II)I"⟩, prog_1_method_13_code, 3, (some FieldType.int), { frames := 2, cells := 0, slots := 0, locals := 43 })
theorem pf_G_entry : plainFor m_G_entry.1 = true := by decide +kernel
theorem d_G_entry_0 : decode prog_1_method_13_code 0 = .ok (.aload_n 0, 1) := by decide +kernel
theorem d_G_entry_1 : decode prog_1_method_13_code 1 = .ok (.iload_n 1, 1) := by decide +kernel
theorem d_G_entry_2 : decode prog_1_method_13_code 2 = .ok (.iload_n 2, 1) := by decide +kernel
theorem d_G_entry_3 : decode prog_1_method_13_code 3 = .ok (.invokevirtual 128, 3) := by decide +kernel
theorem d_G_entry_6 : decode prog_1_method_13_code 6 = .ok (.ifCond .eq 24, 3) := by decide +kernel
theorem d_G_entry_9 : decode prog_1_method_13_code 9 = .ok (.aload_n 0, 1) := by decide +kernel
theorem d_G_entry_10 : decode prog_1_method_13_code 10 = .ok (.getfield 37, 3) := by decide +kernel
theorem d_G_entry_13 : decode prog_1_method_13_code 13 = .ok (.iload_n 1, 1) := by decide +kernel
theorem d_G_entry_14 : decode prog_1_method_13_code 14 = .ok (.aaload, 1) := by decide +kernel
theorem d_G_entry_15 : decode prog_1_method_13_code 15 = .ok (.getfield 55, 3) := by decide +kernel
theorem d_G_entry_18 : decode prog_1_method_13_code 18 = .ok (.iload_n 2, 1) := by decide +kernel
theorem d_G_entry_19 : decode prog_1_method_13_code 19 = .ok (.iconst 1, 1) := by decide +kernel
theorem d_G_entry_20 : decode prog_1_method_13_code 20 = .ok (.iadd, 1) := by decide +kernel
theorem d_G_entry_21 : decode prog_1_method_13_code 21 = .ok (.invokevirtual 132, 3) := by decide +kernel
theorem d_G_entry_24 : decode prog_1_method_13_code 24 = .ok (.getfield 136, 3) := by decide +kernel
theorem d_G_entry_27 : decode prog_1_method_13_code 27 = .ok (.goto 4, 3) := by decide +kernel
theorem d_G_entry_30 : decode prog_1_method_13_code 30 = .ok (.iconst 0, 1) := by decide +kernel
theorem d_G_entry_31 : decode prog_1_method_13_code 31 = .ok (.ireturn, 1) := by decide +kernel
theorem b_G_entry_0 {l : Launch} {D : va_G} {cid : Nat → ClassId} {X : CT} {Post : PT} (hX : OK l D cid m_G_entry X Post) : SS l D cid m_G_entry X 0 [o_aload 0, o_iload 1, o_iload 2, o_callV l D cid m_G_hasEntry 3 2] (t_if (fun x => x = 0) (FR l D cid m_G_entry X 30) (FR l D cid m_G_entry X 9)) := by
  refine SS.cons (so_aload_n hX d_G_entry_0 rfl) ?_
  refine SS.cons (so_iload_n hX d_G_entry_1 rfl) ?_
  refine SS.cons (so_iload_n hX d_G_entry_2 rfl) ?_
  refine SS.cons (so_callV (M' := m_G_hasEntry) (T := T_G) hX d_G_entry_3 rfl k_447 k_444 k_446 k_21 k_45 pf_G_hasEntry (by decide) (by decide +kernel) ⟨by decide, by decide⟩) ?_
  exact st_if_eq hX d_G_entry_6 (by decide)
theorem b_G_entry_9 {l : Launch} {D : va_G} {cid : Nat → ClassId} {X : CT} {Post : PT} (hX : OK l D cid m_G_entry X Post) : SS l D cid m_G_entry X 9 [o_aload 0, o_getf 3 2, o_iload 1, o_aldq 3, o_getf 2 4, o_iload 2, o_push (.int 1), o_bin (fun x y => x + y), o_callV l D cid m_L_firstEntries 0 1, o_getf 0 4] (FR l D cid m_G_entry X 31) := by
  refine SS.cons (so_aload_n hX d_G_entry_9 rfl) ?_
  refine SS.cons (so_getf (C := R_G) (T := T_G) hX d_G_entry_10 in_G rfl (by decide) k_161) ?_
  refine SS.cons (so_iload_n hX d_G_entry_13 rfl) ?_
  refine SS.cons (so_aldq hX d_G_entry_14 rfl) ?_
  refine SS.cons (so_getf (C := R_P) (T := T_P) hX d_G_entry_15 in_P rfl (by decide) k_113) ?_
  refine SS.cons (so_iload_n hX d_G_entry_18 rfl) ?_
  refine SS.cons (so_iconst hX d_G_entry_19 (by decide)) ?_
  refine SS.cons (so_iadd hX d_G_entry_20) ?_
  refine SS.cons (so_callV (M' := m_L_firstEntries) (T := T_L) hX d_G_entry_21 rfl k_340 k_337 k_338 k_339 k_47 pf_L_firstEntries (by decide) (by decide +kernel) ⟨by decide, by decide⟩) ?_
  refine SS.cons (so_getf (C := R_L) (T := T_L) hX d_G_entry_24 in_L rfl (by decide) k_83) ?_
  exact so_goto hX d_G_entry_27 (by decide)
theorem b_G_entry_30 {l : Launch} {D : va_G} {cid : Nat → ClassId} {X : CT} {Post : PT} (hX : OK l D cid m_G_entry X Post) : SS l D cid m_G_entry X 30 [o_push (.int 0)] (FR l D cid m_G_entry X 31) := by
  refine SS.cons (so_iconst hX d_G_entry_30 (by decide)) ?_
  exact SS.fall
theorem b_G_entry_31 {l : Launch} {D : va_G} {cid : Nat → ClassId} {X : CT} {Post : PT} (hX : OK l D cid m_G_entry X Post) : SS l D cid m_G_entry X 31 [] (t_iret Post) := by
  exact st_iret hX d_G_entry_31 rfl
abbrev m_G_origin : MT := (⟨"GroupLog", "origin", "(II)I"⟩, prog_1_method_14_code, 4, (some FieldType.int), { frames := 2, cells := 0, slots := 0, locals := 43 })
theorem pf_G_origin : plainFor m_G_origin.1 = true := by decide +kernel
theorem d_G_origin_0 : decode prog_1_method_14_code 0 = .ok (.aload_n 0, 1) := by decide +kernel
theorem d_G_origin_1 : decode prog_1_method_14_code 1 = .ok (.iload_n 1, 1) := by decide +kernel
theorem d_G_origin_2 : decode prog_1_method_14_code 2 = .ok (.iload_n 2, 1) := by decide +kernel
theorem d_G_origin_3 : decode prog_1_method_14_code 3 = .ok (.invokevirtual 128, 3) := by decide +kernel
theorem d_G_origin_6 : decode prog_1_method_14_code 6 = .ok (.ifCond .ne 5, 3) := by decide +kernel
theorem d_G_origin_9 : decode prog_1_method_14_code 9 = .ok (.iconst (-1), 1) := by decide +kernel
theorem d_G_origin_10 : decode prog_1_method_14_code 10 = .ok (.ireturn, 1) := by decide +kernel
theorem d_G_origin_11 : decode prog_1_method_14_code 11 = .ok (.aload_n 0, 1) := by decide +kernel
theorem d_G_origin_12 : decode prog_1_method_14_code 12 = .ok (.getfield 37, 3) := by decide +kernel
theorem d_G_origin_15 : decode prog_1_method_14_code 15 = .ok (.iload_n 1, 1) := by decide +kernel
theorem d_G_origin_16 : decode prog_1_method_14_code 16 = .ok (.aaload, 1) := by decide +kernel
theorem d_G_origin_17 : decode prog_1_method_14_code 17 = .ok (.getfield 55, 3) := by decide +kernel
theorem d_G_origin_20 : decode prog_1_method_14_code 20 = .ok (.iload_n 2, 1) := by decide +kernel
theorem d_G_origin_21 : decode prog_1_method_14_code 21 = .ok (.iconst 1, 1) := by decide +kernel
theorem d_G_origin_22 : decode prog_1_method_14_code 22 = .ok (.iadd, 1) := by decide +kernel
theorem d_G_origin_23 : decode prog_1_method_14_code 23 = .ok (.invokevirtual 132, 3) := by decide +kernel
theorem d_G_origin_26 : decode prog_1_method_14_code 26 = .ok (.astore_n 3, 1) := by decide +kernel
theorem d_G_origin_27 : decode prog_1_method_14_code 27 = .ok (.aload_n 3, 1) := by decide +kernel
theorem d_G_origin_28 : decode prog_1_method_14_code 28 = .ok (.getfield 139, 3) := by decide +kernel
theorem d_G_origin_31 : decode prog_1_method_14_code 31 = .ok (.iconst 4, 1) := by decide +kernel
theorem d_G_origin_32 : decode prog_1_method_14_code 32 = .ok (.imul, 1) := by decide +kernel
theorem d_G_origin_33 : decode prog_1_method_14_code 33 = .ok (.aload_n 3, 1) := by decide +kernel
theorem d_G_origin_34 : decode prog_1_method_14_code 34 = .ok (.getfield 142, 3) := by decide +kernel
theorem d_G_origin_37 : decode prog_1_method_14_code 37 = .ok (.iadd, 1) := by decide +kernel
theorem d_G_origin_38 : decode prog_1_method_14_code 38 = .ok (.ireturn, 1) := by decide +kernel
theorem b_G_origin_0 {l : Launch} {D : va_G} {cid : Nat → ClassId} {X : CT} {Post : PT} (hX : OK l D cid m_G_origin X Post) : SS l D cid m_G_origin X 0 [o_aload 0, o_iload 1, o_iload 2, o_callV l D cid m_G_hasEntry 3 2] (t_if (fun x => ¬ x = 0) (FR l D cid m_G_origin X 11) (FR l D cid m_G_origin X 9)) := by
  refine SS.cons (so_aload_n hX d_G_origin_0 rfl) ?_
  refine SS.cons (so_iload_n hX d_G_origin_1 rfl) ?_
  refine SS.cons (so_iload_n hX d_G_origin_2 rfl) ?_
  refine SS.cons (so_callV (M' := m_G_hasEntry) (T := T_G) hX d_G_origin_3 rfl k_447 k_444 k_446 k_21 k_45 pf_G_hasEntry (by decide) (by decide +kernel) ⟨by decide, by decide⟩) ?_
  exact st_if_ne hX d_G_origin_6 (by decide)
theorem b_G_origin_9 {l : Launch} {D : va_G} {cid : Nat → ClassId} {X : CT} {Post : PT} (hX : OK l D cid m_G_origin X Post) : SS l D cid m_G_origin X 9 [o_push (.int (-1))] (t_iret Post) := by
  refine SS.cons (so_iconst hX d_G_origin_9 (by decide)) ?_
  exact st_iret hX d_G_origin_10 rfl
theorem b_G_origin_11 {l : Launch} {D : va_G} {cid : Nat → ClassId} {X : CT} {Post : PT} (hX : OK l D cid m_G_origin X Post) : SS l D cid m_G_origin X 11 [o_aload 0, o_getf 3 2, o_iload 1, o_aldq 3, o_getf 2 4, o_iload 2, o_push (.int 1), o_bin (fun x y => x + y), o_callV l D cid m_L_firstEntries 0 1, o_astore 3, o_aload 3, o_getf 0 3, o_push (.int 4), o_bin (fun x y => x * y), o_aload 3, o_getf 0 2, o_bin (fun x y => x + y)] (t_iret Post) := by
  refine SS.cons (so_aload_n hX d_G_origin_11 rfl) ?_
  refine SS.cons (so_getf (C := R_G) (T := T_G) hX d_G_origin_12 in_G rfl (by decide) k_161) ?_
  refine SS.cons (so_iload_n hX d_G_origin_15 rfl) ?_
  refine SS.cons (so_aldq hX d_G_origin_16 rfl) ?_
  refine SS.cons (so_getf (C := R_P) (T := T_P) hX d_G_origin_17 in_P rfl (by decide) k_113) ?_
  refine SS.cons (so_iload_n hX d_G_origin_20 rfl) ?_
  refine SS.cons (so_iconst hX d_G_origin_21 (by decide)) ?_
  refine SS.cons (so_iadd hX d_G_origin_22) ?_
  refine SS.cons (so_callV (M' := m_L_firstEntries) (T := T_L) hX d_G_origin_23 rfl k_340 k_337 k_338 k_339 k_47 pf_L_firstEntries (by decide) (by decide +kernel) ⟨by decide, by decide⟩) ?_
  refine SS.cons (so_astore_n hX d_G_origin_26 rfl (by decide)) ?_
  refine SS.cons (so_aload_n hX d_G_origin_27 rfl) ?_
  refine SS.cons (so_getf (C := R_L) (T := T_L) hX d_G_origin_28 in_L rfl (by decide) k_81) ?_
  refine SS.cons (so_iconst hX d_G_origin_31 (by decide)) ?_
  refine SS.cons (so_imul hX d_G_origin_32) ?_
  refine SS.cons (so_aload_n hX d_G_origin_33 rfl) ?_
  refine SS.cons (so_getf (C := R_L) (T := T_L) hX d_G_origin_34 in_L rfl (by decide) k_79) ?_
  refine SS.cons (so_iadd hX d_G_origin_37) ?_
  exact st_iret hX d_G_origin_38 rfl
abbrev m_G_total : MT := (⟨"GroupLog", "total", "(I)I"⟩, prog_1_method_15_code, 3, (some FieldType.int), { frames := 1, cells := 0, slots := 0, locals := 22 })
theorem pf_G_total : plainFor m_G_total.1 = true := by decide +kernel
theorem d_G_total_0 : decode prog_1_method_15_code 0 = .ok (.aload_n 0, 1) := by decide +kernel
theorem d_G_total_1 : decode prog_1_method_15_code 1 = .ok (.iload_n 1, 1) := by decide +kernel
theorem d_G_total_2 : decode prog_1_method_15_code 2 = .ok (.invokevirtual 44, 3) := by decide +kernel
theorem d_G_total_5 : decode prog_1_method_15_code 5 = .ok (.ifCond .ne 5, 3) := by decide +kernel
theorem d_G_total_8 : decode prog_1_method_15_code 8 = .ok (.iconst 0, 1) := by decide +kernel
theorem d_G_total_9 : decode prog_1_method_15_code 9 = .ok (.ireturn, 1) := by decide +kernel
theorem d_G_total_10 : decode prog_1_method_15_code 10 = .ok (.aload_n 0, 1) := by decide +kernel
theorem d_G_total_11 : decode prog_1_method_15_code 11 = .ok (.getfield 37, 3) := by decide +kernel
theorem d_G_total_14 : decode prog_1_method_15_code 14 = .ok (.iload_n 1, 1) := by decide +kernel
theorem d_G_total_15 : decode prog_1_method_15_code 15 = .ok (.aaload, 1) := by decide +kernel
theorem d_G_total_16 : decode prog_1_method_15_code 16 = .ok (.astore_n 2, 1) := by decide +kernel
theorem d_G_total_17 : decode prog_1_method_15_code 17 = .ok (.aload_n 2, 1) := by decide +kernel
theorem d_G_total_18 : decode prog_1_method_15_code 18 = .ok (.getfield 55, 3) := by decide +kernel
theorem d_G_total_21 : decode prog_1_method_15_code 21 = .ok (.aload_n 2, 1) := by decide +kernel
theorem d_G_total_22 : decode prog_1_method_15_code 22 = .ok (.getfield 125, 3) := by decide +kernel
theorem d_G_total_25 : decode prog_1_method_15_code 25 = .ok (.invokevirtual 132, 3) := by decide +kernel
theorem d_G_total_28 : decode prog_1_method_15_code 28 = .ok (.getfield 145, 3) := by decide +kernel
theorem d_G_total_31 : decode prog_1_method_15_code 31 = .ok (.ireturn, 1) := by decide +kernel
theorem b_G_total_0 {l : Launch} {D : va_G} {cid : Nat → ClassId} {X : CT} {Post : PT} (hX : OK l D cid m_G_total X Post) : SS l D cid m_G_total X 0 [o_aload 0, o_iload 1, o_callV l D cid m_G_isReplica 3 1] (t_if (fun x => ¬ x = 0) (FR l D cid m_G_total X 10) (FR l D cid m_G_total X 8)) := by
  refine SS.cons (so_aload_n hX d_G_total_0 rfl) ?_
  refine SS.cons (so_iload_n hX d_G_total_1 rfl) ?_
  refine SS.cons (so_callV (M' := m_G_isReplica) (T := T_G) hX d_G_total_2 rfl k_191 k_188 k_190 k_0 k_45 pf_G_isReplica (by decide) (by decide +kernel) ⟨by decide, by decide⟩) ?_
  exact st_if_ne hX d_G_total_5 (by decide)
theorem b_G_total_8 {l : Launch} {D : va_G} {cid : Nat → ClassId} {X : CT} {Post : PT} (hX : OK l D cid m_G_total X Post) : SS l D cid m_G_total X 8 [o_push (.int 0)] (t_iret Post) := by
  refine SS.cons (so_iconst hX d_G_total_8 (by decide)) ?_
  exact st_iret hX d_G_total_9 rfl
theorem b_G_total_10 {l : Launch} {D : va_G} {cid : Nat → ClassId} {X : CT} {Post : PT} (hX : OK l D cid m_G_total X Post) : SS l D cid m_G_total X 10 [o_aload 0, o_getf 3 2, o_iload 1, o_aldq 3, o_astore 2, o_aload 2, o_getf 2 4, o_aload 2, o_getf 2 5, o_callV l D cid m_L_firstEntries 0 1, o_getf 0 5] (t_iret Post) := by
  refine SS.cons (so_aload_n hX d_G_total_10 rfl) ?_
  refine SS.cons (so_getf (C := R_G) (T := T_G) hX d_G_total_11 in_G rfl (by decide) k_161) ?_
  refine SS.cons (so_iload_n hX d_G_total_14 rfl) ?_
  refine SS.cons (so_aldq hX d_G_total_15 rfl) ?_
  refine SS.cons (so_astore_n hX d_G_total_16 rfl (by decide)) ?_
  refine SS.cons (so_aload_n hX d_G_total_17 rfl) ?_
  refine SS.cons (so_getf (C := R_P) (T := T_P) hX d_G_total_18 in_P rfl (by decide) k_113) ?_
  refine SS.cons (so_aload_n hX d_G_total_21 rfl) ?_
  refine SS.cons (so_getf (C := R_P) (T := T_P) hX d_G_total_22 in_P rfl (by decide) k_116) ?_
  refine SS.cons (so_callV (M' := m_L_firstEntries) (T := T_L) hX d_G_total_25 rfl k_340 k_337 k_338 k_339 k_47 pf_L_firstEntries (by decide) (by decide +kernel) ⟨by decide, by decide⟩) ?_
  refine SS.cons (so_getf (C := R_L) (T := T_L) hX d_G_total_28 in_L rfl (by decide) k_85) ?_
  exact st_iret hX d_G_total_31 rfl
abbrev m_G_vector : MT := (⟨"GroupLog", "vector", "(II)I"⟩, prog_1_method_16_code, 3, (some FieldType.int), { frames := 1, cells := 0, slots := 0, locals := 21 })
theorem pf_G_vector : plainFor m_G_vector.1 = true := by decide +kernel
theorem d_G_vector_0 : decode prog_1_method_16_code 0 = .ok (.aload_n 0, 1) := by decide +kernel
theorem d_G_vector_1 : decode prog_1_method_16_code 1 = .ok (.iload_n 1, 1) := by decide +kernel
theorem d_G_vector_2 : decode prog_1_method_16_code 2 = .ok (.invokevirtual 44, 3) := by decide +kernel
theorem d_G_vector_5 : decode prog_1_method_16_code 5 = .ok (.ifCond .eq 25, 3) := by decide +kernel
theorem d_G_vector_8 : decode prog_1_method_16_code 8 = .ok (.aload_n 0, 1) := by decide +kernel
theorem d_G_vector_9 : decode prog_1_method_16_code 9 = .ok (.iload_n 2, 1) := by decide +kernel
theorem d_G_vector_10 : decode prog_1_method_16_code 10 = .ok (.invokevirtual 44, 3) := by decide +kernel
theorem d_G_vector_13 : decode prog_1_method_16_code 13 = .ok (.ifCond .eq 17, 3) := by decide +kernel
theorem d_G_vector_16 : decode prog_1_method_16_code 16 = .ok (.aload_n 0, 1) := by decide +kernel
theorem d_G_vector_17 : decode prog_1_method_16_code 17 = .ok (.getfield 37, 3) := by decide +kernel
theorem d_G_vector_20 : decode prog_1_method_16_code 20 = .ok (.iload_n 1, 1) := by decide +kernel
theorem d_G_vector_21 : decode prog_1_method_16_code 21 = .ok (.aaload, 1) := by decide +kernel
theorem d_G_vector_22 : decode prog_1_method_16_code 22 = .ok (.getfield 119, 3) := by decide +kernel
theorem d_G_vector_25 : decode prog_1_method_16_code 25 = .ok (.iload_n 2, 1) := by decide +kernel
theorem d_G_vector_26 : decode prog_1_method_16_code 26 = .ok (.iaload, 1) := by decide +kernel
theorem d_G_vector_27 : decode prog_1_method_16_code 27 = .ok (.goto 4, 3) := by decide +kernel
theorem d_G_vector_30 : decode prog_1_method_16_code 30 = .ok (.iconst (-1), 1) := by decide +kernel
theorem d_G_vector_31 : decode prog_1_method_16_code 31 = .ok (.ireturn, 1) := by decide +kernel
theorem b_G_vector_0 {l : Launch} {D : va_G} {cid : Nat → ClassId} {X : CT} {Post : PT} (hX : OK l D cid m_G_vector X Post) : SS l D cid m_G_vector X 0 [o_aload 0, o_iload 1, o_callV l D cid m_G_isReplica 3 1] (t_if (fun x => x = 0) (FR l D cid m_G_vector X 30) (FR l D cid m_G_vector X 8)) := by
  refine SS.cons (so_aload_n hX d_G_vector_0 rfl) ?_
  refine SS.cons (so_iload_n hX d_G_vector_1 rfl) ?_
  refine SS.cons (so_callV (M' := m_G_isReplica) (T := T_G) hX d_G_vector_2 rfl k_191 k_188 k_190 k_0 k_45 pf_G_isReplica (by decide) (by decide +kernel) ⟨by decide, by decide⟩) ?_
  exact st_if_eq hX d_G_vector_5 (by decide)
theorem b_G_vector_8 {l : Launch} {D : va_G} {cid : Nat → ClassId} {X : CT} {Post : PT} (hX : OK l D cid m_G_vector X Post) : SS l D cid m_G_vector X 8 [o_aload 0, o_iload 2, o_callV l D cid m_G_isReplica 3 1] (t_if (fun x => x = 0) (FR l D cid m_G_vector X 30) (FR l D cid m_G_vector X 16)) := by
  refine SS.cons (so_aload_n hX d_G_vector_8 rfl) ?_
  refine SS.cons (so_iload_n hX d_G_vector_9 rfl) ?_
  refine SS.cons (so_callV (M' := m_G_isReplica) (T := T_G) hX d_G_vector_10 rfl k_191 k_188 k_190 k_0 k_45 pf_G_isReplica (by decide) (by decide +kernel) ⟨by decide, by decide⟩) ?_
  exact st_if_eq hX d_G_vector_13 (by decide)
theorem b_G_vector_16 {l : Launch} {D : va_G} {cid : Nat → ClassId} {X : CT} {Post : PT} (hX : OK l D cid m_G_vector X Post) : SS l D cid m_G_vector X 16 [o_aload 0, o_getf 3 2, o_iload 1, o_aldq 3, o_getf 2 6, o_iload 2, o_ald 0] (FR l D cid m_G_vector X 31) := by
  refine SS.cons (so_aload_n hX d_G_vector_16 rfl) ?_
  refine SS.cons (so_getf (C := R_G) (T := T_G) hX d_G_vector_17 in_G rfl (by decide) k_161) ?_
  refine SS.cons (so_iload_n hX d_G_vector_20 rfl) ?_
  refine SS.cons (so_aldq hX d_G_vector_21 rfl) ?_
  refine SS.cons (so_getf (C := R_P) (T := T_P) hX d_G_vector_22 in_P rfl (by decide) k_119) ?_
  refine SS.cons (so_iload_n hX d_G_vector_25 rfl) ?_
  refine SS.cons (so_iald hX d_G_vector_26) ?_
  exact so_goto hX d_G_vector_27 (by decide)
theorem b_G_vector_30 {l : Launch} {D : va_G} {cid : Nat → ClassId} {X : CT} {Post : PT} (hX : OK l D cid m_G_vector X Post) : SS l D cid m_G_vector X 30 [o_push (.int (-1))] (FR l D cid m_G_vector X 31) := by
  refine SS.cons (so_iconst hX d_G_vector_30 (by decide)) ?_
  exact SS.fall
theorem b_G_vector_31 {l : Launch} {D : va_G} {cid : Nat → ClassId} {X : CT} {Post : PT} (hX : OK l D cid m_G_vector X Post) : SS l D cid m_G_vector X 31 [] (t_iret Post) := by
  exact st_iret hX d_G_vector_31 rfl
abbrev m_G_sent : MT := (⟨"GroupLog", "sent", "()I"⟩, prog_1_method_17_code, 1, (some FieldType.int), { frames := 0, cells := 0, slots := 0, locals := 0 })
theorem pf_G_sent : plainFor m_G_sent.1 = true := by decide +kernel
theorem d_G_sent_0 : decode prog_1_method_17_code 0 = .ok (.aload_n 0, 1) := by decide +kernel
theorem d_G_sent_1 : decode prog_1_method_17_code 1 = .ok (.getfield 15, 3) := by decide +kernel
theorem d_G_sent_4 : decode prog_1_method_17_code 4 = .ok (.ireturn, 1) := by decide +kernel
theorem b_G_sent_0 {l : Launch} {D : va_G} {cid : Nat → ClassId} {X : CT} {Post : PT} (hX : OK l D cid m_G_sent X Post) : SS l D cid m_G_sent X 0 [o_aload 0, o_getf 3 4] (t_iret Post) := by
  refine SS.cons (so_aload_n hX d_G_sent_0 rfl) ?_
  refine SS.cons (so_getf (C := R_G) (T := T_G) hX d_G_sent_1 in_G rfl (by decide) k_163) ?_
  exact st_iret hX d_G_sent_4 rfl
abbrev m_G_message : MT := (⟨"GroupLog", "message", "(I)I"⟩, prog_1_method_18_code, 3, (some FieldType.int), { frames := 1, cells := 0, slots := 0, locals := 22 })
theorem pf_G_message : plainFor m_G_message.1 = true := by decide +kernel
theorem d_G_message_0 : decode prog_1_method_18_code 0 = .ok (.aload_n 0, 1) := by decide +kernel
theorem d_G_message_1 : decode prog_1_method_18_code 1 = .ok (.iload_n 1, 1) := by decide +kernel
theorem d_G_message_2 : decode prog_1_method_18_code 2 = .ok (.invokevirtual 83, 3) := by decide +kernel
theorem d_G_message_5 : decode prog_1_method_18_code 5 = .ok (.astore_n 2, 1) := by decide +kernel
theorem d_G_message_6 : decode prog_1_method_18_code 6 = .ok (.aload_n 2, 1) := by decide +kernel
theorem d_G_message_7 : decode prog_1_method_18_code 7 = .ok (.ifnonnull 7, 3) := by decide +kernel
theorem d_G_message_10 : decode prog_1_method_18_code 10 = .ok (.iconst (-1), 1) := by decide +kernel
theorem d_G_message_11 : decode prog_1_method_18_code 11 = .ok (.goto 33, 3) := by decide +kernel
theorem d_G_message_14 : decode prog_1_method_18_code 14 = .ok (.aload_n 2, 1) := by decide +kernel
theorem d_G_message_15 : decode prog_1_method_18_code 15 = .ok (.getfield 148, 3) := by decide +kernel
theorem d_G_message_18 : decode prog_1_method_18_code 18 = .ok (.bipush 16, 2) := by decide +kernel
theorem d_G_message_20 : decode prog_1_method_18_code 20 = .ok (.aload_n 2, 1) := by decide +kernel
theorem d_G_message_21 : decode prog_1_method_18_code 21 = .ok (.getfield 151, 3) := by decide +kernel
theorem d_G_message_24 : decode prog_1_method_18_code 24 = .ok (.imul, 1) := by decide +kernel
theorem d_G_message_25 : decode prog_1_method_18_code 25 = .ok (.iadd, 1) := by decide +kernel
theorem d_G_message_26 : decode prog_1_method_18_code 26 = .ok (.sipush 128, 3) := by decide +kernel
theorem d_G_message_29 : decode prog_1_method_18_code 29 = .ok (.aload_n 2, 1) := by decide +kernel
theorem d_G_message_30 : decode prog_1_method_18_code 30 = .ok (.getfield 154, 3) := by decide +kernel
theorem d_G_message_33 : decode prog_1_method_18_code 33 = .ok (.imul, 1) := by decide +kernel
theorem d_G_message_34 : decode prog_1_method_18_code 34 = .ok (.iadd, 1) := by decide +kernel
theorem d_G_message_35 : decode prog_1_method_18_code 35 = .ok (.sipush 1024, 3) := by decide +kernel
theorem d_G_message_38 : decode prog_1_method_18_code 38 = .ok (.aload_n 2, 1) := by decide +kernel
theorem d_G_message_39 : decode prog_1_method_18_code 39 = .ok (.getfield 157, 3) := by decide +kernel
theorem d_G_message_42 : decode prog_1_method_18_code 42 = .ok (.imul, 1) := by decide +kernel
theorem d_G_message_43 : decode prog_1_method_18_code 43 = .ok (.iadd, 1) := by decide +kernel
theorem d_G_message_44 : decode prog_1_method_18_code 44 = .ok (.ireturn, 1) := by decide +kernel
theorem b_G_message_0 {l : Launch} {D : va_G} {cid : Nat → ClassId} {X : CT} {Post : PT} (hX : OK l D cid m_G_message X Post) : SS l D cid m_G_message X 0 [o_aload 0, o_iload 1, o_callV l D cid m_G_findMessage 3 1, o_astore 2, o_aload 2] (t_null (FR l D cid m_G_message X 10) (FR l D cid m_G_message X 14)) := by
  refine SS.cons (so_aload_n hX d_G_message_0 rfl) ?_
  refine SS.cons (so_iload_n hX d_G_message_1 rfl) ?_
  refine SS.cons (so_callV (M' := m_G_findMessage) (T := T_G) hX d_G_message_2 rfl k_286 k_283 k_285 k_7 k_45 pf_G_findMessage (by decide) (by decide +kernel) ⟨by decide, by decide⟩) ?_
  refine SS.cons (so_astore_n hX d_G_message_5 rfl (by decide)) ?_
  refine SS.cons (so_aload_n hX d_G_message_6 rfl) ?_
  exact st_ifnonnull hX d_G_message_7 (by decide)
theorem b_G_message_10 {l : Launch} {D : va_G} {cid : Nat → ClassId} {X : CT} {Post : PT} (hX : OK l D cid m_G_message X Post) : SS l D cid m_G_message X 10 [o_push (.int (-1))] (FR l D cid m_G_message X 44) := by
  refine SS.cons (so_iconst hX d_G_message_10 (by decide)) ?_
  exact so_goto hX d_G_message_11 (by decide)
theorem b_G_message_14 {l : Launch} {D : va_G} {cid : Nat → ClassId} {X : CT} {Post : PT} (hX : OK l D cid m_G_message X Post) : SS l D cid m_G_message X 14 [o_aload 2, o_getf 1 0, o_push (.int 16), o_aload 2, o_getf 1 1, o_bin (fun x y => x * y), o_bin (fun x y => x + y), o_push (.int 128), o_aload 2, o_getf 1 2, o_bin (fun x y => x * y), o_bin (fun x y => x + y), o_push (.int 1024), o_aload 2, o_getf 1 3, o_bin (fun x y => x * y), o_bin (fun x y => x + y)] (FR l D cid m_G_message X 44) := by
  refine SS.cons (so_aload_n hX d_G_message_14 rfl) ?_
  refine SS.cons (so_getf (C := R_E) (T := T_E) hX d_G_message_15 in_E rfl (by decide) k_243) ?_
  refine SS.cons (so_bipush hX d_G_message_18 (by decide)) ?_
  refine SS.cons (so_aload_n hX d_G_message_20 rfl) ?_
  refine SS.cons (so_getf (C := R_E) (T := T_E) hX d_G_message_21 in_E rfl (by decide) k_245) ?_
  refine SS.cons (so_imul hX d_G_message_24) ?_
  refine SS.cons (so_iadd hX d_G_message_25) ?_
  refine SS.cons (so_sipush hX d_G_message_26 (by decide)) ?_
  refine SS.cons (so_aload_n hX d_G_message_29 rfl) ?_
  refine SS.cons (so_getf (C := R_E) (T := T_E) hX d_G_message_30 in_E rfl (by decide) k_247) ?_
  refine SS.cons (so_imul hX d_G_message_33) ?_
  refine SS.cons (so_iadd hX d_G_message_34) ?_
  refine SS.cons (so_sipush hX d_G_message_35 (by decide)) ?_
  refine SS.cons (so_aload_n hX d_G_message_38 rfl) ?_
  refine SS.cons (so_getf (C := R_E) (T := T_E) hX d_G_message_39 in_E rfl (by decide) k_250) ?_
  refine SS.cons (so_imul hX d_G_message_42) ?_
  refine SS.cons (so_iadd hX d_G_message_43) ?_
  exact SS.fall
theorem b_G_message_44 {l : Launch} {D : va_G} {cid : Nat → ClassId} {X : CT} {Post : PT} (hX : OK l D cid m_G_message X Post) : SS l D cid m_G_message X 44 [] (t_iret Post) := by
  exact st_iret hX d_G_message_44 rfl
abbrev m_G_answered : MT := (⟨"GroupLog", "answered", "(I)I"⟩, prog_1_method_19_code, 2, (some FieldType.int), { frames := 1, cells := 0, slots := 0, locals := 20 })
theorem pf_G_answered : plainFor m_G_answered.1 = true := by decide +kernel
theorem d_G_answered_0 : decode prog_1_method_19_code 0 = .ok (.iload_n 1, 1) := by decide +kernel
theorem d_G_answered_1 : decode prog_1_method_19_code 1 = .ok (.invokestatic 48, 3) := by decide +kernel
theorem d_G_answered_4 : decode prog_1_method_19_code 4 = .ok (.ifCond .eq 12, 3) := by decide +kernel
theorem d_G_answered_7 : decode prog_1_method_19_code 7 = .ok (.aload_n 0, 1) := by decide +kernel
theorem d_G_answered_8 : decode prog_1_method_19_code 8 = .ok (.getfield 22, 3) := by decide +kernel
theorem d_G_answered_11 : decode prog_1_method_19_code 11 = .ok (.iload_n 1, 1) := by decide +kernel
theorem d_G_answered_12 : decode prog_1_method_19_code 12 = .ok (.iaload, 1) := by decide +kernel
theorem d_G_answered_13 : decode prog_1_method_19_code 13 = .ok (.goto 4, 3) := by decide +kernel
theorem d_G_answered_16 : decode prog_1_method_19_code 16 = .ok (.iconst (-1), 1) := by decide +kernel
theorem d_G_answered_17 : decode prog_1_method_19_code 17 = .ok (.ireturn, 1) := by decide +kernel
theorem b_G_answered_0 {l : Launch} {D : va_G} {cid : Nat → ClassId} {X : CT} {Post : PT} (hX : OK l D cid m_G_answered X Post) : SS l D cid m_G_answered X 0 [o_iload 1, o_callS l D cid m_G_isClient 1] (t_if (fun x => x = 0) (FR l D cid m_G_answered X 16) (FR l D cid m_G_answered X 7)) := by
  refine SS.cons (so_iload_n hX d_G_answered_0 rfl) ?_
  refine SS.cons (so_callS (M' := m_G_isClient) hX d_G_answered_1 k_194 k_192 k_193 k_45 pf_G_isClient (by decide) (by decide +kernel) ⟨by decide, by decide⟩) ?_
  exact st_if_eq hX d_G_answered_4 (by decide)
theorem b_G_answered_7 {l : Launch} {D : va_G} {cid : Nat → ClassId} {X : CT} {Post : PT} (hX : OK l D cid m_G_answered X Post) : SS l D cid m_G_answered X 7 [o_aload 0, o_getf 3 6, o_iload 1, o_ald 0] (FR l D cid m_G_answered X 17) := by
  refine SS.cons (so_aload_n hX d_G_answered_7 rfl) ?_
  refine SS.cons (so_getf (C := R_G) (T := T_G) hX d_G_answered_8 in_G rfl (by decide) k_165) ?_
  refine SS.cons (so_iload_n hX d_G_answered_11 rfl) ?_
  refine SS.cons (so_iald hX d_G_answered_12) ?_
  exact so_goto hX d_G_answered_13 (by decide)
theorem b_G_answered_16 {l : Launch} {D : va_G} {cid : Nat → ClassId} {X : CT} {Post : PT} (hX : OK l D cid m_G_answered X Post) : SS l D cid m_G_answered X 16 [o_push (.int (-1))] (FR l D cid m_G_answered X 17) := by
  refine SS.cons (so_iconst hX d_G_answered_16 (by decide)) ?_
  exact SS.fall
theorem b_G_answered_17 {l : Launch} {D : va_G} {cid : Nat → ClassId} {X : CT} {Post : PT} (hX : OK l D cid m_G_answered X Post) : SS l D cid m_G_answered X 17 [] (t_iret Post) := by
  exact st_iret hX d_G_answered_17 rfl
abbrev m_G_answer : MT := (⟨"GroupLog", "answer", "(I)I"⟩, prog_1_method_20_code, 2, (some FieldType.int), { frames := 1, cells := 0, slots := 0, locals := 20 })
theorem pf_G_answer : plainFor m_G_answer.1 = true := by decide +kernel
theorem d_G_answer_0 : decode prog_1_method_20_code 0 = .ok (.iload_n 1, 1) := by decide +kernel
theorem d_G_answer_1 : decode prog_1_method_20_code 1 = .ok (.invokestatic 48, 3) := by decide +kernel
theorem d_G_answer_4 : decode prog_1_method_20_code 4 = .ok (.ifCond .eq 12, 3) := by decide +kernel
theorem d_G_answer_7 : decode prog_1_method_20_code 7 = .ok (.aload_n 0, 1) := by decide +kernel
theorem d_G_answer_8 : decode prog_1_method_20_code 8 = .ok (.getfield 26, 3) := by decide +kernel
theorem d_G_answer_11 : decode prog_1_method_20_code 11 = .ok (.iload_n 1, 1) := by decide +kernel
theorem d_G_answer_12 : decode prog_1_method_20_code 12 = .ok (.iaload, 1) := by decide +kernel
theorem d_G_answer_13 : decode prog_1_method_20_code 13 = .ok (.goto 4, 3) := by decide +kernel
theorem d_G_answer_16 : decode prog_1_method_20_code 16 = .ok (.iconst 0, 1) := by decide +kernel
theorem d_G_answer_17 : decode prog_1_method_20_code 17 = .ok (.ireturn, 1) := by decide +kernel
theorem b_G_answer_0 {l : Launch} {D : va_G} {cid : Nat → ClassId} {X : CT} {Post : PT} (hX : OK l D cid m_G_answer X Post) : SS l D cid m_G_answer X 0 [o_iload 1, o_callS l D cid m_G_isClient 1] (t_if (fun x => x = 0) (FR l D cid m_G_answer X 16) (FR l D cid m_G_answer X 7)) := by
  refine SS.cons (so_iload_n hX d_G_answer_0 rfl) ?_
  refine SS.cons (so_callS (M' := m_G_isClient) hX d_G_answer_1 k_194 k_192 k_193 k_45 pf_G_isClient (by decide) (by decide +kernel) ⟨by decide, by decide⟩) ?_
  exact st_if_eq hX d_G_answer_4 (by decide)
theorem b_G_answer_7 {l : Launch} {D : va_G} {cid : Nat → ClassId} {X : CT} {Post : PT} (hX : OK l D cid m_G_answer X Post) : SS l D cid m_G_answer X 7 [o_aload 0, o_getf 3 7, o_iload 1, o_ald 0] (FR l D cid m_G_answer X 17) := by
  refine SS.cons (so_aload_n hX d_G_answer_7 rfl) ?_
  refine SS.cons (so_getf (C := R_G) (T := T_G) hX d_G_answer_8 in_G rfl (by decide) k_166) ?_
  refine SS.cons (so_iload_n hX d_G_answer_11 rfl) ?_
  refine SS.cons (so_iald hX d_G_answer_12) ?_
  exact so_goto hX d_G_answer_13 (by decide)
theorem b_G_answer_16 {l : Launch} {D : va_G} {cid : Nat → ClassId} {X : CT} {Post : PT} (hX : OK l D cid m_G_answer X Post) : SS l D cid m_G_answer X 16 [o_push (.int 0)] (FR l D cid m_G_answer X 17) := by
  refine SS.cons (so_iconst hX d_G_answer_16 (by decide)) ?_
  exact SS.fall
theorem b_G_answer_17 {l : Launch} {D : va_G} {cid : Nat → ClassId} {X : CT} {Post : PT} (hX : OK l D cid m_G_answer X Post) : SS l D cid m_G_answer X 17 [] (t_iret Post) := by
  exact st_iret hX d_G_answer_17 rfl
end
section
section SPG
variable {l : Launch} {D : va_G} {cid : Nat → ClassId} {Z : Nat → Prop} {f : HF} {A : Nat → Nat} {N i : Nat} {cs : Nat → PC} {R : RS} {S : GS}
abbrev gobj (A : Nat → Nat) (N : Nat) (S : GS) : List Value := [.int (nI N), .int (nI (N / 2)), .ref (A 1), .ref (A 2), .int (nI (gT S)), .int (gL S), .ref (A 3), .ref (A 4)]
theorem sp_isReplica {x : Int32} (hA : AI (5 + 5 * N) A) (h0 : cs 0 = .inl (3, gobj A N S)) : CS l D cid m_G_isReplica [.ref (A 0), .int x] (hC (5 + 5 * N) A f cs) (fun v f' => v = some (.int (bI (isR N x))) ∧ f' = hC (5 + 5 * N) A f cs) := by
  intro X hX
  refine b_G_isReplica_0 hX _ _ _ _ _ (i_iload rfl <| i_if ?_ ?_)
  · intro h
    refine b_G_isReplica_16 hX _ _ _ _ _ (i_push <| i_end ?_)
    refine b_G_isReplica_17 hX _ _ _ _ _ (i_zret ?_)
    exact ⟨by rw [show isR N x = false from decide_eq_false (fun q => q.1 h)]; rfl, rfl⟩
  · intro h
    refine b_G_isReplica_4 hX _ _ _ _ _ (i_iload rfl <| i_aload rfl <| i_getf (c_cell hA (by omega) h0) rfl <| i_cmp ?_ ?_)
    · intro h'
      refine b_G_isReplica_16 hX _ _ _ _ _ (i_push <| i_end ?_)
      refine b_G_isReplica_17 hX _ _ _ _ _ (i_zret ?_)
      exact ⟨by rw [show isR N x = false from decide_eq_false (fun q => Int32.not_lt.mpr h' q.2)]; rfl, rfl⟩
    · intro h'
      refine b_G_isReplica_12 hX _ _ _ _ _ (i_push <| i_end ?_)
      refine b_G_isReplica_17 hX _ _ _ _ _ (i_zret ?_)
      exact ⟨by rw [show isR N x = true from decide_eq_true ⟨h, Int32.not_le.mp h'⟩]; rfl, rfl⟩
theorem sp_isClient {F : HF} {x : Int32} : CS l D cid m_G_isClient [.int x] F (fun v f' => v = some (.int (bI (isCl x))) ∧ f' = F) := by
  intro X hX
  refine b_G_isClient_0 hX _ _ _ _ _ (i_iload rfl <| i_if ?_ ?_)
  · intro h
    refine b_G_isClient_13 hX _ _ _ _ _ (i_push <| i_end ?_)
    refine b_G_isClient_14 hX _ _ _ _ _ (i_zret ?_)
    exact ⟨by rw [show isCl x = false from decide_eq_false (fun q => q.1 h)]; rfl, rfl⟩
  · intro h
    refine b_G_isClient_4 hX _ _ _ _ _ (i_iload rfl <| i_push <| i_cmp ?_ ?_)
    · intro h'
      refine b_G_isClient_13 hX _ _ _ _ _ (i_push <| i_end ?_)
      refine b_G_isClient_14 hX _ _ _ _ _ (i_zret ?_)
      exact ⟨by rw [show isCl x = false from decide_eq_false (fun q => Int32.not_lt.mpr h' q.2)]; rfl, rfl⟩
    · intro h'
      refine b_G_isClient_9 hX _ _ _ _ _ (i_push <| i_end ?_)
      refine b_G_isClient_14 hX _ _ _ _ _ (i_zret ?_)
      exact ⟨by rw [show isCl x = true from decide_eq_true ⟨h, Int32.not_le.mp h'⟩]; rfl, rfl⟩
theorem sp_primaryOf {v : Int32} (hA : AI (5 + 5 * N) A) (hN : N = 3 ∨ N = 5) (h0 : cs 0 = .inl (3, gobj A N S)) : CS l D cid m_G_primaryOf [.ref (A 0), .int v] (hC (5 + 5 * N) A f cs) (fun w f' => w = some (.int (fmod v (nI N))) ∧ f' = hC (5 + 5 * N) A f cs) := by
  intro X hX
  refine b_G_primaryOf_0 hX _ _ _ _ _ (i_iload rfl <| i_aload rfl <| i_getf (c_cell hA (by omega) h0) rfl <| j_rdS (sp_floorMod (nN0 hN)) rfl rfl <| i_iret ?_)
  exact ⟨rfl, rfl⟩
theorem sp_leads {la va : Nat} (hA : AI (5 + 5 * N) A) (hN : N = 3 ∨ N = 5) (hi : i < N) (h0 : cs 0 = .inl (3, gobj A N S)) (h1 : cs (5 + 5 * i) = .inl (2, robj A i la va R)) : CS l D cid m_G_leads [.ref (A 0), .ref (A (5 + 5 * i))] (hC (5 + 5 * N) A f cs) (fun w f' => w = some (.int (bI (decide (leads N R i)))) ∧ f' = hC (5 + 5 * N) A f cs) := by
  intro X hX
  have h5 : 5 + 5 * i < 5 + 5 * N := by omega
  refine b_G_leads_0 hX _ _ _ _ _ (i_aload rfl <| i_getf (c_cell hA h5 h1) rfl <| i_if ?_ ?_)
  · intro h
    refine b_G_leads_26 hX _ _ _ _ _ (i_push <| i_end ?_)
    refine b_G_leads_27 hX _ _ _ _ _ (i_zret ?_)
    exact ⟨by rw [decide_eq_false (fun q : leads N R i => h q.1)]; rfl, rfl⟩
  · intro h
    have h' := Classical.not_not.mp h
    refine b_G_leads_7 hX _ _ _ _ _ (i_aload rfl <| i_aload rfl <| i_getf (c_cell hA h5 h1) rfl <| j_rdV (c_cell hA (by omega) h0) (sp_primaryOf hA hN h0) rfl rfl <| i_aload rfl <| i_getf (c_cell hA h5 h1) rfl <| i_cmp ?_ ?_)
    · intro hn
      refine b_G_leads_26 hX _ _ _ _ _ (i_push <| i_end ?_)
      refine b_G_leads_27 hX _ _ _ _ _ (i_zret ?_)
      exact ⟨by rw [decide_eq_false (fun q : leads N R i => hn q.2)]; rfl, rfl⟩
    · intro hn
      refine b_G_leads_22 hX _ _ _ _ _ (i_push <| i_end ?_)
      refine b_G_leads_27 hX _ _ _ _ _ (i_zret ?_)
      exact ⟨by rw [decide_eq_true (show leads N R i from ⟨h', Classical.not_not.mp hn⟩)]; rfl, rfl⟩
theorem sp_answerClient {la : Nat} {es : List Ent} (hE : En Z A N f) (hG : GRc Z f A N cs S) (hl : LogR Z f es la) :
    CS l D cid m_G_answerClient [.ref (A 0), .ref la] (hC (5 + 5 * N) A f cs) (fun v f' => v = none ∧ ∃ cs', f' = hC (5 + 5 * N) A f cs' ∧ (∀ k, k ≠ 3 → k ≠ 4 → cs' k = cs k) ∧ GRc Z f A N cs' (g_ans S es)) := by
  intro X hX
  have hA := hE.1
  obtain ⟨h0, h1, h2, ⟨g3, e3, n3⟩, ⟨g4, e4, n4⟩, h5⟩ := id hG
  obtain ⟨b, hb⟩ := hl.cell
  obtain ⟨c, hc, hcl⟩ := hl.cl
  have hlc := hE.im (cs := cs) _ _ hl.nz hb
  have hcc : (hd es).1.toNatClampNeg = c := by rw [hcl]; exact nI_clamp (by omega)
  refine b_G_answerClient_0 hX _ _ _ _ _ (i_aload rfl <| i_getf hlc rfl <| i_aload rfl <| i_getf (c_cell hA (by omega) h0) rfl <| i_aload rfl <| i_getf hlc rfl <| i_ald (c_cell hA (by omega) e3) ⟨hcl, hc, by omega⟩ <| i_cmp ?_ ?_)
  · intro h
    refine b_G_answerClient_42 hX _ _ _ _ _ (i_ret ?_)
    refine ⟨rfl, cs, rfl, fun _ _ _ => rfl, ?_⟩
    rw [g_ans, if_neg]
    · exact hG
    · rw [hcc, ← n3 c hc]
      exact Int32.not_le.mpr h
  · intro h
    refine b_G_answerClient_16 hX _ _ _ _ _ (i_aload rfl <| i_getf (c_cell hA (by omega) h0) rfl <| i_aload rfl <| i_getf hlc rfl <| i_aload rfl <| i_getf hlc rfl <| c_ast hA (by omega) e3 ⟨hcl, hc, by omega⟩ <| i_aload rfl <| i_getf (c_cell hA (by omega) ((va_n (by decide)).trans h0)) rfl <| i_aload rfl <| i_getf (hE.im _ _ hl.nz hb) rfl <| i_aload rfl <| i_getf (hE.im _ _ hl.nz hb) rfl <| c_ast hA (by omega) ((va_n (by decide)).trans e4) ⟨hcl, hc, by omega⟩ <| i_end ?_)
    refine b_G_answerClient_42 hX _ _ _ _ _ (i_ret ?_)
    refine ⟨rfl, _, rfl, fun k a b => (va_n b).trans (va_n a), ?_⟩
    rw [g_ans, if_pos]
    · refine ⟨(va_n (by decide)).trans ((va_n (by decide)).trans h0), ?_, ?_, ⟨_, (va_n (by decide)).trans (va_s _ _ _), fun t ht => ?_⟩, ⟨_, va_s _ _ _, fun t ht => ?_⟩, fun j hj => (h5 j hj).fm (ext_r f) (fun k hk => ?_)⟩
      · obtain ⟨g1, q1, q2⟩ := h1
        exact ⟨g1, (va_n (by decide)).trans ((va_n (by decide)).trans q1), q2⟩
      · obtain ⟨g1, q1, q2⟩ := h2
        exact ⟨g1, (va_n (by decide)).trans ((va_n (by decide)).trans q1), q2⟩
      · show upd g3 c (hd es).2.1 t = va_up (gN S) (hd es).1.toNatClampNeg (hd es).2.1 t
        rw [hcc]
        by_cases e : t = c
        · rw [e, upd_s, va_s]
        · rw [upd_n e, va_n e]
          exact n3 t ht
      · show upd g4 c (tot es) t = va_up (gA S) (hd es).1.toNatClampNeg (tot es) t
        rw [hcc]
        by_cases e : t = c
        · rw [e, upd_s, va_s]
        · rw [upd_n e, va_n e]
          exact n4 t ht
      · simp only [W5] at hk
        rw [va_n (by omega), va_n (by omega)]
    · rw [hcc, ← n3 c hc]
      exact Int32.not_lt.mp h
theorem sp_E_init {F : HF} {a p la va : Nat} {kind d : Int32} (ha : F a = some (.inl (1, df_E))) (hne : p ≠ a) (hp : F p = some (.inl (2, robj A i la va R))) :
    CS l D cid m_E_init [.ref a, .ref p, .int kind, .int d] F (fun v f' => v = none ∧ f' = hup F a (.inl (1, [.int kind, .int (nI i), .int d, .int (rV R), .int (rL R), .ref va, .ref la, .int (rC R)]))) := by
  intro X hX
  refine b_E_init_0 hX _ _ _ _ _ (i_aload rfl <| i_obj <| i_aload rfl <| i_iload rfl <| i_putI ha rfl <| i_aload rfl <| i_aload rfl <| i_getf ((hup_n hne).trans hp) rfl <| i_putI (hup_s _ _ _) rfl <| i_aload rfl <| i_iload rfl <| i_putI (hup_s _ _ _) rfl <| i_aload rfl <| i_aload rfl <| i_getf ((hup_n hne).trans ((hup_n hne).trans ((hup_n hne).trans hp))) rfl <| i_putI (hup_s _ _ _) rfl <| i_aload rfl <| i_aload rfl <| i_getf ((hup_n hne).trans ((hup_n hne).trans ((hup_n hne).trans ((hup_n hne).trans hp)))) rfl <| i_putI (hup_s _ _ _) rfl <| i_aload rfl <| i_aload rfl <| i_getf ((hup_n hne).trans ((hup_n hne).trans ((hup_n hne).trans ((hup_n hne).trans ((hup_n hne).trans hp))))) rfl <| i_putR (hup_s _ _ _) rfl <| i_aload rfl <| i_aload rfl <| i_getf ((hup_n hne).trans ((hup_n hne).trans ((hup_n hne).trans ((hup_n hne).trans ((hup_n hne).trans ((hup_n hne).trans hp)))))) rfl <| i_putR (hup_s _ _ _) rfl <| i_aload rfl <| i_aload rfl <| i_getf ((hup_n hne).trans ((hup_n hne).trans ((hup_n hne).trans ((hup_n hne).trans ((hup_n hne).trans ((hup_n hne).trans ((hup_n hne).trans hp))))))) rfl <| i_putI (hup_s _ _ _) rfl <| i_ret ?_)
  refine ⟨rfl, ?_⟩
  simp only [hup_hup]
  rfl
end SPG
end
section
section SPH
variable {l : Launch} {D : va_G} {cid : Nat → ClassId} {Z : Nat → Prop} {f : HF} {A : Nat → Nat} {N i : Nat} {cs : Nat → PC} {R : RS} {S : GS}
def PH (Z : Nat → Prop) (f : HF) (A : Nat → Nat) (N : Nat) (w : Option Value) (S' : GS) : PT := fun v F' => v = w ∧ ∃ f1 cs', F' = hC (5 + 5 * N) A f1 cs' ∧ Ext f f1 ∧ GRc Z f1 A N cs' S'
theorem RepC.set {f' : HF} {R' : RS} {la' va' : Nat} (hF : Ext f f') (h : RepC Z f A N cs i R) (hi : i < N) (hl : LogR Z f' (rG R') la') (hv : VecR Z f' N va' (rX R')) (ha : rA R' = rA R) (ho : rO R' = rO R) (he : rE R' = rE R) (hr : rR R' = rR R) (hc : b24 (rC R')) : RepC Z f' A N (va_up cs (5 + 5 * i) (.inl (2, robj A i la' va' R'))) i R' := by
  obtain ⟨la, va, h1, h2, h3, h4, h5, h6, h7, h8, h9⟩ := h
  refine ⟨la', va', va_s _ _ _, hl, hv, ?_, ?_, ?_, ?_, hc, ?_⟩
  · rw [ha]
    exact h4.fm (va_n (by omega))
  · rw [ho]
    exact h5.fm hF (va_n (by omega))
  · rw [he]
    exact h6.fm hF (va_n (by omega))
  · rw [hr]
    exact h7.fm hF (va_n (by omega))
  · rw [ha]
    exact h9
theorem sp_send {kind : Int32} {d : Nat} (hE : En Z A N f) (hN : N = 3 ∨ N = 5) (hi : i < N) (hd : d < N) (hG : GRc Z f A N cs S) (hT : gT S < 2 ^ 30) :
    CS l D cid m_G_send [.ref (A 0), .ref (A (5 + 5 * i)), .int kind, .int (nI d)] (hC (5 + 5 * N) A f cs) (PH Z f A N none (g_send S i kind d)) := by
  intro X hX
  have hA := hE.1
  have h5' : 5 + 5 * i < 5 + 5 * N := by omega
  obtain ⟨h0, ⟨g1, e1, n1⟩, ⟨g2, e2, n2⟩, h3, h4, h5⟩ := id hG
  obtain ⟨la, va, r1, r2, r3, r4, r5, r6, r7, r8, r9⟩ := id (h5 i hi)
  refine b_G_send_0 hX _ _ _ _ _ (i_aload rfl <| i_getf (c_cell hA (by omega) h0) rfl <| i_aload rfl <| i_getf (c_cell hA (by omega) h0) rfl <| i_push <| j_rdS (sp_floorMod (by decide)) rfl rfl <| i_new ⟨by decide, by decide⟩ fun q1 hq1 => i_dup <| i_aload rfl <| i_iload rfl <| i_iload rfl <| ?_)
  obtain ⟨qz, qn⟩ := hE.no hq1
  have hqA := (hC_none hq1).1
  have hne : A (5 + 5 * i) ≠ q1 := fun e => hqA ⟨5 + 5 * i, h5', e.symm⟩
  refine j_upI (sp_E_init (i := i) (R := gR S i) (A := A) (la := la) (va := va) (hup_s _ _ _) hne ((hup_n hne).trans (c_cell hA h5' r1))) rfl rfl ?_
  rw [hup_hup, hC_new hq1]
  have hX1 := Ext.new (c := .inl (1, [.int kind, .int (nI i), .int (nI d), .int (rV (gR S i)), .int (rL (gR S i)), .ref va, .ref la, .int (rC (gR S i))])) qn
  refine (c_astq_r ((hC_no hqA).trans (hup_s _ _ _)) hA (by omega) e2 ⟨fm_64 (by omega), Nat.mod_lt _ (by decide), by omega⟩ <| i_aload rfl <| i_dup <| i_getf (c_cell hA (by omega) ((va_n (by decide)).trans h0)) rfl <| i_push <| i_bin <| c_putI hA (by omega) ((va_n (by decide)).trans h0) rfl <| i_ret ?_)
  refine ⟨rfl, _, _, rfl, hX1, ?_, ⟨g1, (va_n (by decide)).trans ((va_n (by decide)).trans e1), n1⟩, ⟨_, (va_n (by decide)).trans (va_s _ _ _), fun k hk hk2 => ?_⟩, h3.fm ((va_n (by decide)).trans (va_n (by decide))), h4.fm ((va_n (by decide)).trans (va_n (by decide))), fun j hj => (h5 j hj).fm hX1 (fun k hk => ?_)⟩
  · rw [va_s]
    have e : nI (gT (g_send S i kind d)) = nI (gT S) + 1 := nI_succ _
    rw [e]
    rfl
  · have hk' : k < gT S + 1 := hk
    have hk2' : gT S + 1 ≤ k + 64 := hk2
    by_cases e : k = gT S
    · refine ⟨q1, by rw [e, va_s], ?_⟩
      show MsgR Z _ N q1 (va_up (gM S) (gT S) (mkM (gR S i) i kind d) k)
      rw [e, va_s]
      exact ⟨qz, va, la, hup_s _ _ _, r3.fm (fun a c _ q => hX1 a c q), r2.fm (fun a c _ q => hX1 a c q), hi, hd, r8⟩
    · obtain ⟨q, hq, hm⟩ := n2 k (by omega) (by omega)
      have hne2 : k % 64 ≠ gT S % 64 := by omega
      refine ⟨q, ?_, ?_⟩
      · rw [va_n hne2]
        exact hq
      · show MsgR Z _ N q (va_up (gM S) (gT S) (mkM (gR S i) i kind d) k)
        rw [va_n e]
        exact hm.fm (fun a c _ q => hX1 a c q)
  · simp only [W5] at hk
    rw [va_n (by omega), va_n (by omega)]
theorem sp_sendToAll {kind : Int32} (hE : En Z A N f) (hN : N = 3 ∨ N = 5) (hi : i < N) (hG : GRc Z f A N cs S) (hT : gT S < 2 ^ 29) :
    CS l D cid m_G_sendToAll [.ref (A 0), .ref (A (5 + 5 * i)), .int kind] (hC (5 + 5 * N) A f cs) (PH Z f A N none (g_all S i kind N)) := by
  intro X hX
  have hA := hE.1
  have h5' : 5 + 5 * i < 5 + 5 * N := by omega
  have loop : ∀ t, t ≤ N → ∀ (f1 : HF) (c1 : Nat → PC), Ext f f1 → GRc Z f1 A N c1 (g_all S i kind t) → ∀ bc bs, N - t ≤ bc → 8 * (N - t) ≤ bs → FR l D cid m_G_sendToAll X 2 [some (.ref (A 0)), some (.ref (A (5 + 5 * i))), some (.int kind), some (.int (nI t))] [] (hC (5 + 5 * N) A f1 c1) bc bs := by
    refine up_to ?_ ?_
    · intro f1 c1 hx hg bc bs hb1 hb2
      refine b_G_sendToAll_2 hX _ _ _ _ _ (i_iload rfl <| i_aload rfl <| i_getf (c_cell hA (by omega) hg.1) rfl <| i_cmp_t (Int32.le_refl _) ?_)
      refine b_G_sendToAll_31 hX _ _ _ _ _ (i_ret ?_)
      exact ⟨rfl, f1, c1, rfl, hx, hg⟩
    · intro t ht ih f1 c1 hx hg bc bs hb1 hb2
      simp only [nI_succ] at ih
      obtain ⟨la, va, r1, r2⟩ := hg.2.2.2.2.2 i hi
      refine b_G_sendToAll_2 hX _ _ _ _ _ (i_iload rfl <| i_aload rfl <| i_getf (c_cell hA (by omega) hg.1) rfl <| i_cmp_f (nI_ge ht (by omega)) ?_)
      refine b_G_sendToAll_10 hX _ _ _ _ _ (i_iload rfl <| i_aload rfl <| i_getf (c_cell hA h5' r1) rfl <| i_cmp ?_ ?_)
      · intro he
        have he' : t = i := (nI_eq (by omega) (by omega)).mp he
        refine b_G_sendToAll_25 hX _ _ _ _ _ (i_iinc rfl <| i_end ?_)
        refine ih f1 c1 hx ?_ _ _ (by omega) (by omega)
        rw [g_all, if_pos he']
        exact hg
      · intro he
        have he' : ¬ t = i := fun q => he (congrArg nI q)
        have hTt := g_all_T S i kind t
        refine b_G_sendToAll_18 hX _ _ _ _ _ (i_aload rfl <| i_aload rfl <| i_iload rfl <| i_iload rfl <| ?_)
        refine j_callV (c_cell hA (by omega) hg.1) (sp_send (i := i) (d := t) (kind := kind) (hE.ext hx) hN hi ht hg (by omega)) rfl rfl ?_ (h4 := ?_) (h5 := ?_)
        · rintro v F' ⟨rfl, f2, c2, rfl, hx2, hg2⟩
          refine (i_end ?_)
          refine b_G_sendToAll_25 hX _ _ _ _ _ (i_iinc rfl <| i_end ?_)
          refine ih f2 c2 (hx.trans hx2) ?_ _ _ ?_ ?_
          · rw [g_all, if_neg he']
            exact hg2
          · show N - (t + 1) ≤ bc - 1
            omega
          · show 8 * (N - (t + 1)) ≤ bs - 8
            omega
        · show 1 ≤ bc
          omega
        · show 8 ≤ bs
          omega
  refine b_G_sendToAll_0 hX _ _ _ _ _ (i_push <| i_istore <| i_end ?_)
  refine loop 0 (Nat.zero_le _) f cs (ext_r f) hG _ _ ?_ ?_
  · show N - 0 ≤ 5
    omega
  · show 8 * (N - 0) ≤ 40
    omega
theorem sp_hears {F : HF} {p q la va va' la' : Nat} {m : Msg} (hp : F p = some (.inl (2, robj A i la va R))) (hq : F q = some (.inl (1, [.int (mK m), .int (nI (mS m)), .int (nI (mD m)), .int (mV m), .int (mL m), .ref va', .ref la', .int (mC m)]))) :
    CS l D cid m_G_hears [.ref p, .ref q] F (fun v f' => v = some (.int (bI (decide (hears R m)))) ∧ f' = F) := by
  intro X hX
  have fin : ∀ (b : Bool) (bc bs : Nat), b = decide (hears R m) → FR l D cid m_G_hears X 43 [some (.ref p), some (.ref q)] [.int (bI b)] F bc bs := by
    intro b bc bs hb
    refine b_G_hears_43 hX _ _ _ _ _ (i_zret ?_)
    exact ⟨by rw [hb], rfl⟩
  have h21 : ∀ (b1 : Bool) (bc bs : Nat), ¬ rS R = 3 → b1 = decide (rS R = 2) → FR l D cid m_G_hears X 21 [some (.ref p), some (.ref q)] [.int (bI b1)] F bc bs := by
    intro b1 bc bs h3 hb1
    have h35 : ∀ (b2 : Bool) (bc bs : Nat), b2 = decide (mK m = 8) → FR l D cid m_G_hears X 35 [some (.ref p), some (.ref q)] [.int (bI b2), .int (bI b1)] F bc bs := by
      intro b2 bc bs hb2
      have key : (bI b1 = bI b2) ↔ (rS R = 2 ↔ mK m = 8) := by
        subst hb1 hb2
        by_cases c1 : rS R = 2 <;> by_cases c2 : mK m = 8 <;> simp [c1, c2, bI]
      refine b_G_hears_35 hX _ _ _ _ _ (i_cmp ?_ ?_)
      · intro hn
        refine b_G_hears_42 hX _ _ _ _ _ (i_push <| i_end ?_)
        exact fin false _ _ (decide_eq_false (fun q => hn (key.mpr q.2))).symm
      · intro hn
        refine b_G_hears_38 hX _ _ _ _ _ (i_push <| i_end ?_)
        exact fin true _ _ (decide_eq_true (show hears R m from ⟨h3, key.mp (Classical.not_not.mp hn)⟩)).symm
    refine b_G_hears_21 hX _ _ _ _ _ (i_aload rfl <| i_getf hq rfl <| i_push <| i_cmp ?_ ?_)
    · intro hn
      refine b_G_hears_34 hX _ _ _ _ _ (i_push <| i_end ?_)
      exact h35 false _ _ (decide_eq_false hn).symm
    · intro hn
      refine b_G_hears_30 hX _ _ _ _ _ (i_push <| i_end ?_)
      exact h35 true _ _ (decide_eq_true (Classical.not_not.mp hn)).symm
  refine b_G_hears_0 hX _ _ _ _ _ (i_aload rfl <| i_getf hp rfl <| i_push <| i_cmp ?_ ?_)
  · intro h3
    refine b_G_hears_42 hX _ _ _ _ _ (i_push <| i_end ?_)
    exact fin false _ _ (decide_eq_false (fun q => q.1 h3)).symm
  · intro h3
    refine b_G_hears_8 hX _ _ _ _ _ (i_aload rfl <| i_getf hp rfl <| i_push <| i_cmp ?_ ?_)
    · intro hn
      refine b_G_hears_20 hX _ _ _ _ _ (i_push <| i_end ?_)
      exact h21 false _ _ h3 (decide_eq_false hn).symm
    · intro hn
      refine b_G_hears_16 hX _ _ _ _ _ (i_push <| i_end ?_)
      exact h21 true _ _ h3 (decide_eq_true (Classical.not_not.mp hn)).symm
theorem sp_isOutdated {F : HF} {p q la va va' la' : Nat} {m : Msg} (hN : N ≤ 5) (hi : i < N) (hms : mS m < N) (hp : F p = some (.inl (2, robj A i la va R))) (hq : F q = some (.inl (1, [.int (mK m), .int (nI (mS m)), .int (nI (mD m)), .int (mV m), .int (mL m), .ref va', .ref la', .int (mC m)]))) (hv : VecR Z F N va (rX R)) (hv' : VecR Z F N va' (mX m)) :
    CS l D cid m_G_isOutdated [.ref p, .ref q] F (fun v f' => v = some (.int (bI (decide (outdated R m i)))) ∧ f' = F) := by
  intro X hX
  obtain ⟨vz, g, hg, ng⟩ := hv
  obtain ⟨vz', g', hg', ng'⟩ := hv'
  have fin : ∀ (b : Bool) (bc bs : Nat), b = decide (outdated R m i) → FR l D cid m_G_isOutdated X 56 [some (.ref p), some (.ref q)] [.int (bI b)] F bc bs := by
    intro b bc bs hb
    refine b_G_isOutdated_56 hX _ _ _ _ _ (i_zret ?_)
    exact ⟨by rw [hb], rfl⟩
  refine b_G_isOutdated_0 hX _ _ _ _ _ (i_aload rfl <| i_getf hq rfl <| i_aload rfl <| i_getf hq rfl <| i_ald hg' ⟨rfl, hms, by omega⟩ <| i_aload rfl <| i_getf hp rfl <| i_aload rfl <| i_getf hq rfl <| i_ald hg ⟨rfl, hms, by omega⟩ <| i_cmp ?_ ?_)
  · intro h
    rw [ng' _ hms, ng _ hms] at h
    refine b_G_isOutdated_51 hX _ _ _ _ _ (i_push <| i_end ?_)
    exact fin true _ _ (decide_eq_true (show outdated R m i from Or.inl h)).symm
  · intro h
    rw [ng' _ hms, ng _ hms] at h
    refine b_G_isOutdated_21 hX _ _ _ _ _ (i_aload rfl <| i_getf hq rfl <| i_push <| i_cmp ?_ ?_)
    · intro h8
      refine b_G_isOutdated_55 hX _ _ _ _ _ (i_push <| i_end ?_)
      exact fin false _ _ (decide_eq_false (fun z : outdated R m i => z.elim h (fun y => h8 y.1))).symm
    · intro h8
      have h8' := Classical.not_not.mp h8
      refine b_G_isOutdated_30 hX _ _ _ _ _ (i_aload rfl <| i_getf hq rfl <| i_aload rfl <| i_getf hp rfl <| i_ald hg' ⟨rfl, hi, by omega⟩ <| i_aload rfl <| i_getf hp rfl <| i_aload rfl <| i_getf hp rfl <| i_ald hg ⟨rfl, hi, by omega⟩ <| i_cmp ?_ ?_)
      · intro he
        rw [ng' _ hi, ng _ hi] at he
        refine b_G_isOutdated_55 hX _ _ _ _ _ (i_push <| i_end ?_)
        exact fin false _ _ (decide_eq_false (fun z : outdated R m i => z.elim h (fun y => y.2 he))).symm
      · intro he
        rw [ng' _ hi, ng _ hi] at he
        refine b_G_isOutdated_51 hX _ _ _ _ _ (i_push <| i_end ?_)
        exact fin true _ _ (decide_eq_true (show outdated R m i from Or.inr ⟨h8', he⟩)).symm
theorem sp_replyIfNormal {ma : Nat} {kind : Int32} {m : Msg} (hE : En Z A N f) (hN : N = 3 ∨ N = 5) (hi : i < N) (hm : MsgR Z f N ma m) (hG : GRc Z f A N cs S) (hT : gT S < 2 ^ 30) :
    CS l D cid m_G_replyIfNormal [.ref (A 0), .ref (A (5 + 5 * i)), .ref ma, .int kind] (hC (5 + 5 * N) A f cs) (PH Z f A N none (g_reply S i m kind)) := by
  intro X hX
  have hA := hE.1
  have h5' : 5 + 5 * i < 5 + 5 * N := by omega
  obtain ⟨la, va, r1, r2⟩ := hG.2.2.2.2.2 i hi
  obtain ⟨mz, mva, mla, m1, m2, m3, m4, m5, m6⟩ := hm
  refine b_G_replyIfNormal_0 hX _ _ _ _ _ (i_aload rfl <| i_getf (c_cell hA h5' r1) rfl <| i_if ?_ ?_)
  · intro h
    refine b_G_replyIfNormal_17 hX _ _ _ _ _ (i_ret ?_)
    refine ⟨rfl, f, cs, rfl, ext_r f, ?_⟩
    rw [g_reply, if_neg h]
    exact hG
  · intro h
    refine b_G_replyIfNormal_7 hX _ _ _ _ _ (i_aload rfl <| i_aload rfl <| i_iload rfl <| i_aload rfl <| i_getf (hE.im _ _ mz m1) rfl <| ?_)
    refine j_callV (c_cell hA (by omega) hG.1) (sp_send (i := i) (d := mS m) (kind := kind) hE hN hi m4 hG hT) rfl rfl ?_
    rintro v F' ⟨rfl, f2, c2, rfl, hx2, hg2⟩
    refine (i_end ?_)
    refine b_G_replyIfNormal_17 hX _ _ _ _ _ (i_ret ?_)
    refine ⟨rfl, f2, c2, rfl, hx2, ?_⟩
    rw [g_reply, if_pos (Classical.not_not.mp h)]
    exact hg2
end SPH
end
section
section SPI
variable {l : Launch} {D : va_G} {cid : Nat → ClassId} {Z : Nat → Prop} {f : HF} {A : Nat → Nat} {N i : Nat} {cs : Nat → PC} {S : GS}
theorem ne_of {F : HF} {a q : Nat} {c : PC} (h : F a = some c) (hq : F q = none) : a ≠ q := fun e => by rw [e, hq] at h; cases h
theorem sp_takePrepare {ma : Nat} {m : Msg} (hE : En Z A N f) (hN : N = 3 ∨ N = 5) (hi : i < N) (hm : MsgR Z f N ma m) (hG : GRc Z f A N cs S) (hT : gT S < 2 ^ 30) :
    CS l D cid m_G_takePrepare [.ref (A 0), .ref (A (5 + 5 * i)), .ref ma] (hC (5 + 5 * N) A f cs) (PH Z f A N none (g_prep S i m)) := by
  intro X hX
  have hA := hE.1
  have h5' : 5 + 5 * i < 5 + 5 * N := by omega
  have hR := hG.2.2.2.2.2 i hi
  obtain ⟨la, va, r1, r2, r3, r4, r5, r6, r7, r8, r9⟩ := id hR
  obtain ⟨mz, mva, mla, m1, m2, m3, m4, m5, m6⟩ := id hm
  have hmc := hE.im (cs := cs) _ _ mz m1
  obtain ⟨lb, hlb⟩ := r2.cell
  have hlc := hE.im (cs := cs) _ _ r2.nz hlb
  obtain ⟨mb, hmb⟩ := m3.cell
  have hmlc := hE.im (cs := cs) _ _ m3.nz hmb
  have hlen := r2.len
  have hmlen := m3.len
  refine b_G_takePrepare_0 hX _ _ _ _ _ (i_aload rfl <| i_getf hmc rfl <| i_aload rfl <| i_getf (c_cell hA h5' r1) rfl <| i_cmp ?_ ?_)
  · intro h0
    have h0' : ¬ mV m < rV (gR S i) := Int32.not_lt.mpr h0
    have h59 : (¬ (mV m = rV (gR S i) ∧ rS (gR S i) = 0) ∨ nI (rG (gR S i)).length + 1 < nI (mG m).length) → ∀ x3, FR l D cid m_G_takePrepare X 59 [some (.ref (A 0)), some (.ref (A (5 + 5 * i))), some (.ref ma), x3] [] (hC (5 + 5 * N) A f cs) m_G_takePrepare.2.2.2.2.cells m_G_takePrepare.2.2.2.2.slots := by
      intro hc x3
      refine b_G_takePrepare_59 hX _ _ _ _ _ (i_aload rfl <| i_aload rfl <| i_push <| i_aload rfl <| i_getf hmc rfl <| ?_)
      refine j_callV (c_cell hA (by omega) hG.1) (sp_send (i := i) (d := mS m) (kind := 3) hE hN hi m4 hG hT) rfl rfl ?_
      rintro v F' ⟨rfl, f2, c2, rfl, hx2, hg2⟩
      refine (i_ret ?_)
      refine ⟨rfl, f2, c2, rfl, hx2, ?_⟩
      rw [g_prep, if_neg h0', if_pos hc]
      exact hg2
    have h34 : ¬ (mV m = rV (gR S i) ∧ rS (gR S i) = 0) → FR l D cid m_G_takePrepare X 34 [some (.ref (A 0)), some (.ref (A (5 + 5 * i))), some (.ref ma), none] [] (hC (5 + 5 * N) A f cs) m_G_takePrepare.2.2.2.2.cells m_G_takePrepare.2.2.2.2.slots := by
      intro hc
      refine b_G_takePrepare_34 hX _ _ _ _ _ (i_push <| i_end ?_)
      refine b_G_takePrepare_35 hX _ _ _ _ _ (i_istore <| i_iload rfl <| i_if_t rfl ?_)
      exact h59 (Or.inl hc) _
    refine b_G_takePrepare_12 hX _ _ _ _ _ (i_aload rfl <| i_getf hmc rfl <| i_aload rfl <| i_getf (c_cell hA h5' r1) rfl <| i_cmp ?_ ?_)
    · intro hne
      exact h34 (fun q => hne q.1)
    · intro heq
      have heq' := Classical.not_not.mp heq
      refine b_G_takePrepare_23 hX _ _ _ _ _ (i_aload rfl <| i_getf (c_cell hA h5' r1) rfl <| i_if ?_ ?_)
      · intro hs
        exact h34 (fun q => hs q.2)
      · intro hs
        have hs' := Classical.not_not.mp hs
        refine b_G_takePrepare_30 hX _ _ _ _ _ (i_push <| i_end ?_)
        refine b_G_takePrepare_35 hX _ _ _ _ _ (i_istore <| i_iload rfl <| i_if_f (by decide) ?_)
        refine b_G_takePrepare_40 hX _ _ _ _ _ (i_aload rfl <| i_getf hmc rfl <| i_getf hmlc rfl <| i_aload rfl <| i_getf (c_cell hA h5' r1) rfl <| i_getf hlc rfl <| i_push <| i_bin <| i_cmp ?_ ?_)
        · intro hle
          have hc : ¬ (¬ (mV m = rV (gR S i) ∧ rS (gR S i) = 0) ∨ nI (rG (gR S i)).length + 1 < nI (mG m).length) := fun q => q.elim (fun z => z ⟨heq', hs'⟩) (fun z => Int32.not_lt.mpr hle z)
          have h125 : ∀ (f1 : HF) (c1 : Nat → PC) (x3 : Option Value) (bc bs : Nat), Ext f f1 → GRc Z f1 A N c1 (g_rep S i (r_put (gR S i) m)) → 1 ≤ bc → 8 ≤ bs → FR l D cid m_G_takePrepare X 125 [some (.ref (A 0)), some (.ref (A (5 + 5 * i))), some (.ref ma), x3] [] (hC (5 + 5 * N) A f1 c1) bc bs := by
            intro f1 c1 x3 bc bs hx hg hb1 hb2
            have hR1 := hg.2.2.2.2.2 i hi
            rw [g_rep_R] at hR1
            obtain ⟨la1, va1, p1, p2, p3, p4, p5, p6, p7, p8, p9⟩ := id hR1
            have hE1 := hE.ext hx
            obtain ⟨lb1, hlb1⟩ := p2.cell
            have hl1 := p2.len
            refine b_G_takePrepare_125 hX _ _ _ _ _ (i_aload rfl <| i_aload rfl <| i_getf (c_cell hA h5' p1) rfl <| i_aload rfl <| i_getf (hE1.im _ _ mz (hx _ _ m1)) rfl <| i_aload rfl <| i_getf (c_cell hA h5' p1) rfl <| i_getf (hE1.im _ _ p2.nz hlb1) rfl <| j_rdS (sp_min) rfl rfl <| j_rdS (sp_max) rfl rfl <| c_putI hA h5' p1 rfl <| i_aload rfl <| i_aload rfl <| i_push <| i_aload rfl <| i_getf (hE1.im _ _ mz (hx _ _ m1)) rfl <| ?_)
            have hR2 := RepC.set (R' := r_com (r_put (gR S i) m) (mx (rC (gR S i)) (mn (mC m) (nI (rG (r_put (gR S i) m)).length)))) (ext_r f1) hR1 (by omega) p2 p3 rfl rfl rfl rfl (b24_mx r8 (b24_mn m6 ⟨_, hl1, rfl⟩))
            have hG2 := hg.rep (by omega) hi (ext_r f1) (fun k hk => va_n (fun e => hk (Or.inl e))) hR2
            rw [g_rep_rep] at hG2
            rw [r_put_C]
            refine j_callV (c_cell hA (by omega) hG2.1) (sp_send (i := i) (d := mS m) (kind := 2) hE1 hN hi m4 hG2 hT) rfl rfl ?_ (h4 := hb1) (h5 := hb2)
            rintro v F' ⟨rfl, f2, c2, rfl, hx2, hg2⟩
            refine (i_ret ?_)
            refine ⟨rfl, f2, c2, rfl, hx.trans hx2, ?_⟩
            rw [g_prep, if_neg h0', if_neg hc]
            exact hg2
          refine b_G_takePrepare_70 hX _ _ _ _ _ (i_aload rfl <| i_getf hmc rfl <| i_getf hmlc rfl <| i_aload rfl <| i_getf (c_cell hA h5' r1) rfl <| i_getf hlc rfl <| i_push <| i_bin <| i_cmp ?_ ?_)
          · intro hne'
            refine h125 f cs _ _ _ (ext_r f) ?_ (by decide) (by decide)
            rw [r_put, if_neg hne', g_rep_id]
            exact hG
          · intro heq2
            have heq2' := Classical.not_not.mp heq2
            have hln : (mG m).length = (rG (gR S i)).length + 1 := (nI_eq (by omega) (by omega)).mp (heq2'.trans (nI_succ _).symm)
            refine b_G_takePrepare_89 hX _ _ _ _ _ (i_aload rfl <| i_new ⟨by decide, by decide⟩ fun q1 hq1 => i_dup <| i_aload rfl <| ?_)
            have hqA := (hC_none hq1).1
            obtain ⟨qz, qn⟩ := hE.no hq1
            have nr : A (5 + 5 * i) ≠ q1 := ne_of (c_cell hA h5' r1) hq1
            have nm : ma ≠ q1 := ne_of hmc hq1
            have nl : mla ≠ q1 := ne_of hmlc hq1
            refine (i_getf ((hup_n nr).trans (c_cell hA h5' r1)) rfl <| i_aload rfl <| i_getf ((hup_n nm).trans hmc) rfl <| i_getf ((hup_n nl).trans hmlc) rfl <| i_aload rfl <| i_getf ((hup_n nm).trans hmc) rfl <| i_getf ((hup_n nl).trans hmlc) rfl <| i_aload rfl <| i_getf ((hup_n nm).trans hmc) rfl <| i_getf ((hup_n nl).trans hmlc) rfl <| ?_)
            refine j_upI (sp_L_init2 (Z := Z) (es := rG (gR S i)) (hup_s _ _ _) (ne_of hlc hq1) (r2.fm (fun a c hz h => (hup_n (ne_of (hE.im (cs := cs) _ _ hz h) hq1)).trans (hE.im _ _ hz h)))) rfl rfl ?_
            rw [hup_hup, hC_new hq1]
            have hx1 := Ext.new (c := .inl (0, [.ref la, .int (nI ((rG (gR S i)).length + 1)), .int (hd (mG m)).1, .int (hd (mG m)).2.1, .int (hd (mG m)).2.2, .int (tot (((hd (mG m)).1, (hd (mG m)).2.1, (hd (mG m)).2.2) :: rG (gR S i)))])) qn
            refine (c_putR hA h5' r1 rfl <| i_end ?_)
            refine h125 _ _ _ _ _ hx1 ?_ (by decide) (by decide)
            have hl' : LogR Z (hup f q1 (.inl (0, [.ref la, .int (nI ((rG (gR S i)).length + 1)), .int (hd (mG m)).1, .int (hd (mG m)).2.1, .int (hd (mG m)).2.2, .int (tot (((hd (mG m)).1, (hd (mG m)).2.1, (hd (mG m)).2.2) :: rG (gR S i)))]))) (rG (r_put (gR S i) m)) q1 := by
              rw [r_put, if_pos heq2']
              exact ⟨qz, by omega, m3.cl, la, hup_s _ _ _, r2.fm (fun a c _ h => hx1 a c h)⟩
            refine hG.rep (by omega) hi hx1 (fun k hk => va_n (fun e => hk (Or.inl e))) ?_
            have e2 : r_put (gR S i) m = (rS (gR S i), rV (gR S i), rL (gR S i), hd (mG m) :: rG (gR S i), (gR S i).2.2.2.2) := by rw [r_put, if_pos heq2']
            rw [e2] at hl' ⊢
            exact RepC.set hx1 hR (by omega) hl' (r3.fm (fun a c _ h => hx1 a c h)) rfl rfl rfl rfl r8
        · intro hgt
          exact h59 (Or.inr (Int32.not_le.mp hgt)) _
  · intro h0
    refine b_G_takePrepare_11 hX _ _ _ _ _ (i_ret ?_)
    refine ⟨rfl, f, cs, rfl, ext_r f, ?_⟩
    rw [g_prep, if_pos (Int32.not_le.mp h0)]
    exact hG
theorem sp_startChanging {v : Int32} (hE : En Z A N f) (hN : N = 3 ∨ N = 5) (hi : i < N) (hG : GRc Z f A N cs S) (hT : gT S < 2 ^ 29) :
    CS l D cid m_G_startChanging [.ref (A 0), .ref (A (5 + 5 * i)), .int v] (hC (5 + 5 * N) A f cs) (PH Z f A N none (g_start N S i v)) := by
  intro X hX
  have hA := hE.1
  have h5' : 5 + 5 * i < 5 + 5 * N := by omega
  obtain ⟨la, va, r1, r2, r3, r4, ⟨g1, k1, k1'⟩, ⟨g2, k2, k2'⟩, ⟨g3, k3, k3'⟩, r8, r9⟩ := hG.2.2.2.2.2 i hi
  refine b_G_startChanging_0 hX _ _ _ _ _ (i_aload rfl <| i_push <| c_putI hA h5' r1 rfl <| i_aload rfl <| i_iload rfl <| c_putI hA h5' (va_s _ _ _) rfl <| i_aload rfl <| ?_)
  simp only [va_va]
  refine j_callV (c_cell hA h5' (va_s _ _ _)) (sp_forgetKept (la := la) (va := va) (R := (1, v, (gR S i).2.2)) (g1 := g1) (g2 := g2) (g3 := g3) hA (by omega) (by omega) (va_s _ _ _) ((va_n (by omega)).trans k1) ((va_n (by omega)).trans k2) ((va_n (by omega)).trans k3)) rfl rfl ?_
  rintro w f' ⟨rfl, c1, rfl, hs, n1, n2, n3⟩
  have e5 : c1 (5 + 5 * i) = .inl (2, robj A i la va (1, v, (gR S i).2.2)) := (hs _ (by omega) (by omega) (by omega)).trans (va_s _ _ _)
  refine (i_aload rfl <| i_push <| c_putZ hA h5' e5 rfl <| i_aload rfl <| i_aload rfl <| i_push <| ?_)
  have hR' : RepC Z f A N (va_up c1 (5 + 5 * i) (.inl (2, robj A i la va (r_start (gR S i) v)))) i (r_start (gR S i) v) :=
    ⟨la, va, va_s _ _ _, r2, r3, r4.fm ((va_n (by omega)).trans ((hs _ (by omega) (by omega) (by omega)).trans (va_n (by omega)))), n1.kep.fm (ext_r f) (va_n (by omega)), n2.kep.fm (ext_r f) (va_n (by omega)), n3.kep.fm (ext_r f) (va_n (by omega)), r8, r9⟩
  have hG2 := hG.rep (by omega) hi (ext_r f) (fun k hk => by
    have hk' := hk
    simp only [W5] at hk'
    rw [va_n (by omega), hs k (by omega) (by omega) (by omega), va_n (by omega)]) hR'
  refine j_callV (c_cell hA (by omega) hG2.1) (sp_sendToAll (i := i) (kind := 5) hE hN hi hG2 hT) rfl rfl ?_
  rintro v' F' ⟨rfl, f2, c2, rfl, hx2, hg2⟩
  refine (i_ret ?_)
  exact ⟨rfl, f2, c2, rfl, hx2, hg2⟩
theorem sp_takeState {ma : Nat} {m : Msg} (hE : En Z A N f) (hN : N = 3 ∨ N = 5) (hi : i < N) (hm : MsgR Z f N ma m) (hG : GRc Z f A N cs S) (hT : gT S < 2 ^ 30) (hv : ∃ v : Nat, v < 2 ^ 31 ∧ mV m = nI v) :
    CS l D cid m_G_takeState [.ref (A 0), .ref (A (5 + 5 * i)), .ref ma] (hC (5 + 5 * N) A f cs) (PH Z f A N none (g_state N S i m)) := by
  intro X hX
  have hA := hE.1
  have h5' : 5 + 5 * i < 5 + 5 * N := by omega
  have hR := hG.2.2.2.2.2 i hi
  obtain ⟨la, va, r1, r2, r3, r4, r5, r6, r7, r8, r9⟩ := id hR
  obtain ⟨mz, mva, mla, m1, m2, m3, m4, m5, m6⟩ := id hm
  have hmc := hE.im (cs := cs) _ _ mz m1
  obtain ⟨lb, hlb⟩ := r2.cell
  have hlc := hE.im (cs := cs) _ _ r2.nz hlb
  obtain ⟨mb, hmb⟩ := m3.cell
  have hmlc := hE.im (cs := cs) _ _ m3.nz hmb
  obtain ⟨vv, hvv, hve⟩ := hv
  have hprim : fmod (mV m) (nI N) = nI (vv % N) := by rw [hve, fm_N hvv hN]
  have hpn : vv % N < N := Nat.mod_lt _ (by omega)
  have hpd : prim N (mV m) = vv % N := by rw [prim, hprim]; exact nI_clamp (by omega)
  refine b_G_takeState_0 hX _ _ _ _ _ (i_aload rfl <| i_aload rfl <| i_getf hmc rfl <| j_rdV (c_cell hA (by omega) hG.1) (sp_primaryOf hA hN hG.1) rfl rfl <| i_aload rfl <| i_getf (c_cell hA h5' r1) rfl <| i_cmp ?_ ?_)
  · intro hne
    have h110 : ¬ (rV (gR S i) < mV m ∨ (mV m = rV (gR S i) ∧ (rS (gR S i) = 1 ∨ nI (rG (gR S i)).length < nI (mG m).length))) → ∀ x3 bc bs, FR l D cid m_G_takeState X 110 [some (.ref (A 0)), some (.ref (A (5 + 5 * i))), some (.ref ma), x3] [] (hC (5 + 5 * N) A f cs) bc bs := by
      intro hc x3 bc bs
      refine b_G_takeState_110 hX _ _ _ _ _ (i_ret ?_)
      refine ⟨rfl, f, cs, rfl, ext_r f, ?_⟩
      rw [g_state, if_neg hne, if_neg hc]
      exact hG
    have h73 : (rV (gR S i) < mV m ∨ (mV m = rV (gR S i) ∧ (rS (gR S i) = 1 ∨ nI (rG (gR S i)).length < nI (mG m).length))) → ∀ x3, FR l D cid m_G_takeState X 73 [some (.ref (A 0)), some (.ref (A (5 + 5 * i))), some (.ref ma), x3] [] (hC (5 + 5 * N) A f cs) m_G_takeState.2.2.2.2.cells m_G_takeState.2.2.2.2.slots := by
      intro hc x3
      refine b_G_takeState_73 hX _ _ _ _ _ (i_aload rfl <| i_aload rfl <| i_getf hmc rfl <| i_aload rfl <| i_getf hmc rfl <| i_aload rfl <| i_getf (c_cell hA h5' r1) rfl <| i_aload rfl <| i_getf hmc rfl <| j_rdS (sp_max) rfl rfl <| ?_)
      refine j_callV (c_cell hA h5' r1) (sp_becomeNormal (la' := mla) (v := mV m) hA (by omega) (by omega) hR m3 (b24_mx r8 m6)) rfl rfl ?_
      rintro w f' ⟨rfl, c1, rfl, hs, hR1⟩
      have hG1 := hG.rep (by omega) hi (ext_r f) hs hR1
      refine (i_aload rfl <| i_aload rfl <| i_push <| i_aload rfl <| i_aload rfl <| i_getf (hE.im _ _ mz m1) rfl <| j_rdV (c_cell hA (by omega) hG1.1) (sp_primaryOf hA hN hG1.1) rfl rfl <| ?_)
      rw [hprim]
      refine j_callV (c_cell hA (by omega) hG1.1) (sp_send (i := i) (d := vv % N) (kind := 2) hE hN hi hpn hG1 hT) rfl rfl ?_
      rintro v' F' ⟨rfl, f2, c2, rfl, hx2, hg2⟩
      refine (i_end ?_)
      refine b_G_takeState_110 hX _ _ _ _ _ (i_ret ?_)
      refine ⟨rfl, f2, c2, rfl, hx2, ?_⟩
      rw [g_state, if_neg hne, if_pos hc, hpd]
      exact hg2
    have h46 : ∀ b : Bool, b = decide (rS (gR S i) = 1 ∨ nI (rG (gR S i)).length < nI (mG m).length) → FR l D cid m_G_takeState X 46 [some (.ref (A 0)), some (.ref (A (5 + 5 * i))), some (.ref ma), none] [.int (bI b)] (hC (5 + 5 * N) A f cs) m_G_takeState.2.2.2.2.cells m_G_takeState.2.2.2.2.slots := by
      intro b hb
      refine b_G_takeState_46 hX _ _ _ _ _ (i_istore <| i_aload rfl <| i_getf hmc rfl <| i_aload rfl <| i_getf (c_cell hA h5' r1) rfl <| i_cmp ?_ ?_)
      · intro h
        exact h73 (Or.inl h) _
      · intro h
        refine b_G_takeState_58 hX _ _ _ _ _ (i_aload rfl <| i_getf hmc rfl <| i_aload rfl <| i_getf (c_cell hA h5' r1) rfl <| i_cmp ?_ ?_)
        · intro hn
          exact h110 (fun q => q.elim h (fun z => hn z.1)) _ _ _
        · intro hn
          refine b_G_takeState_69 hX _ _ _ _ _ (i_iload rfl <| i_ifb ?_ ?_)
          · intro hf
            exact h110 (fun q => q.elim h (fun z => by rw [hb] at hf; exact of_decide_eq_false hf z.2)) _ _ _
          · intro ht
            exact h73 (Or.inr ⟨Classical.not_not.mp hn, by rw [hb] at ht; exact of_decide_eq_true ht⟩) _
    refine b_G_takeState_16 hX _ _ _ _ _ (i_aload rfl <| i_getf (c_cell hA h5' r1) rfl <| i_push <| i_cmp ?_ ?_)
    · intro h
      refine b_G_takeState_41 hX _ _ _ _ _ (i_push <| i_end ?_)
      exact h46 true (decide_eq_true (Or.inl h)).symm
    · intro h
      refine b_G_takeState_24 hX _ _ _ _ _ (i_aload rfl <| i_getf hmc rfl <| i_getf hmlc rfl <| i_aload rfl <| i_getf (c_cell hA h5' r1) rfl <| i_getf hlc rfl <| i_cmp ?_ ?_)
      · intro h'
        refine b_G_takeState_45 hX _ _ _ _ _ (i_push <| i_end ?_)
        exact h46 false (decide_eq_false (fun q => q.elim h (Int32.not_lt.mpr h'))).symm
      · intro h'
        refine b_G_takeState_41 hX _ _ _ _ _ (i_push <| i_end ?_)
        exact h46 true (decide_eq_true (Or.inr (Int32.not_le.mp h'))).symm
  · intro heq
    refine b_G_takeState_15 hX _ _ _ _ _ (i_ret ?_)
    refine ⟨rfl, f, cs, rfl, ext_r f, ?_⟩
    rw [g_state, if_pos (Classical.not_not.mp heq)]
    exact hG
end SPI
end
section
section SPJ
variable {l : Launch} {D : va_G} {cid : Nat → ClassId} {Z : Nat → Prop} {f : HF} {A : Nat → Nat} {N i : Nat} {cs : Nat → PC} {S : GS}
theorem sp_joinChange {ma : Nat} {m : Msg} (hE : En Z A N f) (hN : N = 3 ∨ N = 5) (hi : i < N) (hm : MsgR Z f N ma m) (hG : GRc Z f A N cs S) (hT : gT S < 2 ^ 29) :
    CS l D cid m_G_joinChange [.ref (A 0), .ref (A (5 + 5 * i)), .ref ma] (hC (5 + 5 * N) A f cs) (PH Z f A N (some (.int (bI (decide (mV m = rV (gR (g_join N S i m) i) ∧ rS (gR (g_join N S i m) i) = 1))))) (g_join N S i m)) := by
  intro X hX
  have hA := hE.1
  have h5' : 5 + 5 * i < 5 + 5 * N := by omega
  obtain ⟨la, va, r1, r2⟩ := hG.2.2.2.2.2 i hi
  obtain ⟨mz, mva, mla, m1, m2, m3, m4, m5, m6⟩ := id hm
  have hmc := hE.im (cs := cs) _ _ mz m1
  have h20 : ∀ (f1 : HF) (c1 : Nat → PC) (bc bs : Nat), Ext f f1 → GRc Z f1 A N c1 (g_join N S i m) → FR l D cid m_G_joinChange X 20 [some (.ref (A 0)), some (.ref (A (5 + 5 * i))), some (.ref ma)] [] (hC (5 + 5 * N) A f1 c1) bc bs := by
    intro f1 c1 bc bs hx hg
    obtain ⟨la1, va1, p1, p2⟩ := hg.2.2.2.2.2 i hi
    have hmc1 := (hE.ext hx).im (cs := c1) _ _ mz (hx _ _ m1)
    have fin : ∀ (b : Bool) (bc bs : Nat), b = decide (mV m = rV (gR (g_join N S i m) i) ∧ rS (gR (g_join N S i m) i) = 1) → FR l D cid m_G_joinChange X 44 [some (.ref (A 0)), some (.ref (A (5 + 5 * i))), some (.ref ma)] [.int (bI b)] (hC (5 + 5 * N) A f1 c1) bc bs := by
      intro b bc bs hb
      refine b_G_joinChange_44 hX _ _ _ _ _ (i_zret ?_)
      exact ⟨by rw [hb], f1, c1, rfl, hx, hg⟩
    refine b_G_joinChange_20 hX _ _ _ _ _ (i_aload rfl <| i_getf hmc1 rfl <| i_aload rfl <| i_getf (c_cell hA h5' p1) rfl <| i_cmp ?_ ?_)
    · intro h
      refine b_G_joinChange_43 hX _ _ _ _ _ (i_push <| i_end ?_)
      exact fin false _ _ (decide_eq_false (fun q => h q.1)).symm
    · intro h
      refine b_G_joinChange_31 hX _ _ _ _ _ (i_aload rfl <| i_getf (c_cell hA h5' p1) rfl <| i_push <| i_cmp ?_ ?_)
      · intro h'
        refine b_G_joinChange_43 hX _ _ _ _ _ (i_push <| i_end ?_)
        exact fin false _ _ (decide_eq_false (fun q => h' q.2)).symm
      · intro h'
        refine b_G_joinChange_39 hX _ _ _ _ _ (i_push <| i_end ?_)
        exact fin true _ _ (decide_eq_true ⟨Classical.not_not.mp h, Classical.not_not.mp h'⟩).symm
  refine b_G_joinChange_0 hX _ _ _ _ _ (i_aload rfl <| i_getf hmc rfl <| i_aload rfl <| i_getf (c_cell hA h5' r1) rfl <| i_cmp ?_ ?_)
  · intro h
    refine h20 f cs _ _ (ext_r f) ?_
    rw [g_join, if_neg (Int32.not_lt.mpr h)]
    exact hG
  · intro h
    refine b_G_joinChange_11 hX _ _ _ _ _ (i_aload rfl <| i_aload rfl <| i_aload rfl <| i_getf hmc rfl <| ?_)
    refine j_callV (c_cell hA (by omega) hG.1) (sp_startChanging (i := i) (v := mV m) hE hN hi hG hT) rfl rfl ?_
    rintro v' F' ⟨rfl, f2, c2, rfl, hx2, hg2⟩
    refine (i_end ?_)
    refine h20 f2 c2 _ _ hx2 ?_
    rw [g_join, if_pos (Int32.not_le.mp h)]
    exact hg2
theorem kep_put {k ma : Nat} {m : Msg} {km : KM} {g : Nat → Option Nat} (hg : cs k = .inr (.inr (2, N, g))) (hk : ∀ t, t < N → OptR Z f N (g t) (km t)) (hm : MsgR Z f N ma m) : KepC Z f (va_up cs k (.inr (.inr (2, N, va_up g (mS m) (some ma))))) N k (va_up km (mS m) (some m)) := by
  refine ⟨_, va_s _ _ _, fun t ht => ?_⟩
  by_cases e : t = mS m
  · rw [e, va_s, va_s]
    exact hm
  · rw [va_n e, va_n e]
    exact hk t ht
theorem sp_keepVote {ma : Nat} {m : Msg} (hE : En Z A N f) (hN : N = 3 ∨ N = 5) (hi : i < N) (hm : MsgR Z f N ma m) (hG : GRc Z f A N cs S) (hT : gT S < 2 ^ 29) (hv : ∃ v : Nat, v < 2 ^ 31 ∧ rV (gR S i) = nI v) :
    CS l D cid m_G_keepVote [.ref (A 0), .ref (A (5 + 5 * i)), .ref ma] (hC (5 + 5 * N) A f cs) (PH Z f A N none (g_vote N S i m)) := by
  intro X hX
  have hA := hE.1
  have h5' : 5 + 5 * i < 5 + 5 * N := by omega
  have h15 : 7 + 5 * i < 5 + 5 * N := by omega
  obtain ⟨la, va, r1, r2, r3, r4, r5, r6, r7, r8, r9⟩ := id (hG.2.2.2.2.2 i hi)
  obtain ⟨g1, k1, k1'⟩ := id r5
  obtain ⟨mz, mva, mla, m1, m2, m3, m4, m5, m6⟩ := id hm
  have hmc := hE.im (cs := cs) _ _ mz m1
  obtain ⟨vv, hvv, hve⟩ := hv
  have hprim : fmod (rV (gR S i)) (nI N) = nI (vv % N) := by rw [hve, fm_N hvv hN]
  have hpn : vv % N < N := Nat.mod_lt _ (by omega)
  have hpd : prim N (rV (gR S i)) = vv % N := by rw [prim, hprim]; exact nI_clamp (by omega)
  have hR1 : RepC Z f A N (va_up cs (7 + 5 * i) (.inr (.inr (2, N, va_up g1 (mS m) (some ma))))) i (r_vote (gR S i) m) :=
    ⟨la, va, (va_n (by omega)).trans r1, r2, r3, r4.fm (va_n (by omega)), kep_put k1 k1' hm, r6.fm (ext_r f) (va_n (by omega)), r7.fm (ext_r f) (va_n (by omega)), r8, r9⟩
  have hG1 := hG.rep (by omega) hi (ext_r f) (fun k hk => va_n (fun e => hk (Or.inr (Or.inr (Or.inl e))))) hR1
  have hr1 : (va_up cs (7 + 5 * i) (.inr (.inr (2, N, va_up g1 (mS m) (some ma))))) (5 + 5 * i) = .inl (2, robj A i la va (gR S i)) := (va_n (by omega)).trans r1
  obtain ⟨gk, kk, kk'⟩ := kep_put k1 k1' hm
  have fin : ¬ (¬ nI i = fmod (rV (gR S i)) (nI N) ∧ rP (gR S i) = 0 ∧ nI (N / 2) ≤ cnt (rO (r_vote (gR S i) m)) N) → ∀ x3 bc bs, FR l D cid m_G_keepVote X 61 [some (.ref (A 0)), some (.ref (A (5 + 5 * i))), some (.ref ma), x3] [] (hC (5 + 5 * N) A f (va_up cs (7 + 5 * i) (.inr (.inr (2, N, va_up g1 (mS m) (some ma)))))) bc bs := by
    intro hc x3 bc bs
    refine b_G_keepVote_61 hX _ _ _ _ _ (i_ret ?_)
    refine ⟨rfl, f, _, rfl, ext_r f, ?_⟩
    rw [g_vote, if_neg hc]
    exact hG1
  refine b_G_keepVote_0 hX _ _ _ _ _ (i_aload rfl <| i_getf (c_cell hA h5' r1) rfl <| i_aload rfl <| i_getf hmc rfl <| i_aload rfl <| c_astq_r hmc hA h15 k1 ⟨rfl, m4, by omega⟩ <| i_aload rfl <| i_aload rfl <| i_getf (c_cell hA h5' hr1) rfl <| j_rdV (c_cell hA (by omega) hG1.1) (sp_primaryOf hA hN hG1.1) rfl rfl <| i_istore <| i_aload rfl <| i_getf (c_cell hA h5' hr1) rfl <| i_iload rfl <| i_cmp ?_ ?_)
  · intro h
    exact fin (fun q => q.1 h) _ _ _
  · intro h
    refine b_G_keepVote_27 hX _ _ _ _ _ (i_aload rfl <| i_getf (c_cell hA h5' hr1) rfl <| i_if ?_ ?_)
    · intro h'
      exact fin (fun q => h' q.2.1) _ _ _
    · intro h'
      refine b_G_keepVote_34 hX _ _ _ _ _ (i_aload rfl <| i_getf (c_cell hA h5' hr1) rfl <| j_rdS (sp_count (Z := Z) (km := rO (r_vote (gR S i) m)) (by omega) (c_cell hA h15 kk) (fun t ht => (kk' t ht).fm hE.im)) rfl rfl <| i_aload rfl <| i_getf (c_cell hA (by omega) hG1.1) rfl <| i_cmp ?_ ?_)
      · intro h''
        exact fin (fun q => Int32.not_le.mpr h'' q.2.2) _ _ _
      · intro h''
        refine b_G_keepVote_48 hX _ _ _ _ _ (i_aload rfl <| i_aload rfl <| i_push <| i_iload rfl <| ?_)
        rw [hprim]
        refine j_callV (c_cell hA (by omega) hG1.1) (sp_send (i := i) (d := vv % N) (kind := 6) hE hN hi hpn hG1 (Nat.lt_trans hT (by decide))) rfl rfl ?_
        rintro v' F' ⟨rfl, f2, c2, rfl, hx2, hg2⟩
        have hR2 := hg2.2.2.2.2.2 i hi
        rw [show gR (g_send (g_rep S i (r_vote (gR S i) m)) i 6 (vv % N)) i = r_vote (gR S i) m from va_s _ _ _] at hR2
        obtain ⟨la2, va2, p1, p2, p3, p4, p5, p6, p7, p8, p9⟩ := id hR2
        refine (i_aload rfl <| i_push <| c_putZ hA h5' p1 rfl <| i_end ?_)
        refine b_G_keepVote_61 hX _ _ _ _ _ (i_ret ?_)
        have hR3 := RepC.set (R' := r_sent (r_vote (gR S i) m)) (ext_r f2) hR2 (by omega) p2 p3 rfl rfl rfl rfl p8
        refine ⟨rfl, f2, _, rfl, hx2, ?_⟩
        rw [g_vote, if_pos ⟨h, Classical.not_not.mp h', Int32.not_lt.mp h''⟩, hpd]
        exact hg2.rep (by omega) hi (ext_r f2) (fun k hk => va_n (fun e => hk (Or.inl e))) hR3
theorem sp_keepPaper {ma : Nat} {m : Msg} (hE : En Z A N f) (hN : N = 3 ∨ N = 5) (hi : i < N) (hm : MsgR Z f N ma m) (hG : GRc Z f A N cs S) (hT : gT S < 2 ^ 29) :
    CS l D cid m_G_keepPaper [.ref (A 0), .ref (A (5 + 5 * i)), .ref ma] (hC (5 + 5 * N) A f cs) (PH Z f A N none (g_paper N S i m)) := by
  intro X hX
  have hA := hE.1
  have h5' : 5 + 5 * i < 5 + 5 * N := by omega
  have h20 : 8 + 5 * i < 5 + 5 * N := by omega
  obtain ⟨la, va, r1, r2, r3, r4, r5, r6, r7, r8, r9⟩ := id (hG.2.2.2.2.2 i hi)
  obtain ⟨g1, k1, k1'⟩ := id r6
  obtain ⟨mz, mva, mla, m1, m2, m3, m4, m5, m6⟩ := id hm
  have hmc := hE.im (cs := cs) _ _ mz m1
  have hR1 : RepC Z f A N (va_up cs (8 + 5 * i) (.inr (.inr (2, N, va_up g1 (mS m) (some ma))))) i (r_pap (gR S i) m) :=
    ⟨la, va, (va_n (by omega)).trans r1, r2, r3, r4.fm (va_n (by omega)), r5.fm (ext_r f) (va_n (by omega)), kep_put k1 k1' hm, r7.fm (ext_r f) (va_n (by omega)), r8, r9⟩
  have hs1 : ∀ k, ¬ W5 i k → va_up cs (8 + 5 * i) (.inr (.inr (2, N, va_up g1 (mS m) (some ma)))) k = cs k := fun k hk => va_n (fun e => hk (Or.inr (Or.inr (Or.inr (Or.inl e)))))
  have hG1 := hG.rep (by omega) hi (ext_r f) hs1 hR1
  have hr1 : (va_up cs (8 + 5 * i) (.inr (.inr (2, N, va_up g1 (mS m) (some ma))))) (5 + 5 * i) = .inl (2, robj A i la va (gR S i)) := (va_n (by omega)).trans r1
  obtain ⟨gk, kk, kk'⟩ := kep_put k1 k1' hm
  refine b_G_keepPaper_0 hX _ _ _ _ _ (i_aload rfl <| i_getf (c_cell hA h5' r1) rfl <| i_aload rfl <| i_getf hmc rfl <| i_aload rfl <| c_astq_r hmc hA h20 k1 ⟨rfl, m4, by omega⟩ <| i_aload rfl <| i_getf (c_cell hA h5' hr1) rfl <| j_rdS (sp_count (Z := Z) (km := rE (r_pap (gR S i) m)) (by omega) (c_cell hA h20 kk) (fun t ht => (kk' t ht).fm hE.im)) rfl rfl <| i_aload rfl <| i_getf (c_cell hA (by omega) hG1.1) rfl <| i_cmp ?_ ?_)
  · intro h
    refine b_G_keepPaper_34 hX _ _ _ _ _ (i_ret ?_)
    refine ⟨rfl, f, _, rfl, ext_r f, ?_⟩
    rw [g_paper, if_neg (Int32.not_le.mpr h)]
    exact hG1
  · intro h
    refine b_G_keepPaper_24 hX _ _ _ _ _ (i_aload rfl <| ?_)
    refine j_callV (c_cell hA h5' hr1) (sp_becomePrimary hE (by omega) (by omega) hR1) rfl rfl ?_
    rintro w F' ⟨rfl, c2, rfl, s2, hR2⟩
    have hG2 := hG.rep (by omega) hi (ext_r f) (fun k hk => (s2 k hk).trans (hs1 k hk)) hR2
    refine (i_aload rfl <| i_aload rfl <| i_push <| ?_)
    refine j_callV (c_cell hA (by omega) hG2.1) (sp_sendToAll (i := i) (kind := 4) hE hN hi hG2 hT) rfl rfl ?_
    rintro v' F' ⟨rfl, f3, c3, rfl, hx3, hg3⟩
    refine (i_end ?_)
    refine b_G_keepPaper_34 hX _ _ _ _ _ (i_ret ?_)
    refine ⟨rfl, f3, c3, rfl, hx3, ?_⟩
    rw [g_paper, if_pos (Int32.not_lt.mp h)]
    exact hg3
theorem sp_keepResponse {ma : Nat} {m : Msg} (hE : En Z A N f) (hN : N = 3 ∨ N = 5) (hi : i < N) (hm : MsgR Z f N ma m) (hG : GRc Z f A N cs S) (hv : ∃ v : Nat, v < 2 ^ 31 ∧ gvw (rR (r_resp (gR S i) m)) N = nI v) :
    CS l D cid m_G_keepResponse [.ref (A 0), .ref (A (5 + 5 * i)), .ref ma] (hC (5 + 5 * N) A f cs) (PH Z f A N none (g_rep S i (r_reco N (r_resp (gR S i) m)))) := by
  intro X hX
  have hA := hE.1
  have h5' : 5 + 5 * i < 5 + 5 * N := by omega
  have h25 : 9 + 5 * i < 5 + 5 * N := by omega
  obtain ⟨la, va, r1, r2, r3, r4, r5, r6, r7, r8, r9⟩ := id (hG.2.2.2.2.2 i hi)
  obtain ⟨g1, k1, k1'⟩ := id r7
  obtain ⟨mz, mva, mla, m1, m2, m3, m4, m5, m6⟩ := id hm
  have hmc := hE.im (cs := cs) _ _ mz m1
  obtain ⟨vv, hvv, hve⟩ := hv
  have hprim : fmod (gvw (rR (r_resp (gR S i) m)) N) (nI N) = nI (vv % N) := by rw [hve, fm_N hvv hN]
  have hpn : vv % N < N := Nat.mod_lt _ (by omega)
  have hpd : prim N (gvw (rR (r_resp (gR S i) m)) N) = vv % N := by rw [prim, hprim]; exact nI_clamp (by omega)
  have hR1 : RepC Z f A N (va_up cs (9 + 5 * i) (.inr (.inr (2, N, va_up g1 (mS m) (some ma))))) i (r_resp (gR S i) m) :=
    ⟨la, va, (va_n (by omega)).trans r1, r2, r3, r4.fm (va_n (by omega)), r5.fm (ext_r f) (va_n (by omega)), r6.fm (ext_r f) (va_n (by omega)), kep_put k1 k1' hm, r8, r9⟩
  have hs1 : ∀ k, ¬ W5 i k → va_up cs (9 + 5 * i) (.inr (.inr (2, N, va_up g1 (mS m) (some ma)))) k = cs k := fun k hk => va_n (fun e => hk (Or.inr (Or.inr (Or.inr (Or.inr e)))))
  have hG1 := hG.rep (by omega) hi (ext_r f) hs1 hR1
  have hr1 : (va_up cs (9 + 5 * i) (.inr (.inr (2, N, va_up g1 (mS m) (some ma))))) (5 + 5 * i) = .inl (2, robj A i la va (gR S i)) := (va_n (by omega)).trans r1
  have kk := va_s cs (9 + 5 * i) (.inr (.inr (2, N, va_up g1 (mS m) (some ma))) : PC)
  have kk' : ∀ t, t < N → OptR Z f N (va_up g1 (mS m) (some ma) t) (rR (r_resp (gR S i) m) t) := by
    obtain ⟨g9, e9, n9⟩ := kep_put k1 k1' hm
    rw [va_s] at e9
    cases e9
    exact n9
  have fin : r_reco N (r_resp (gR S i) m) = r_resp (gR S i) m → ∀ x3 x4 bc bs, FR l D cid m_G_keepResponse X 74 [some (.ref (A 0)), some (.ref (A (5 + 5 * i))), some (.ref ma), x3, x4] [] (hC (5 + 5 * N) A f (va_up cs (9 + 5 * i) (.inr (.inr (2, N, va_up g1 (mS m) (some ma)))))) bc bs := by
    intro hc x3 x4 bc bs
    refine b_G_keepResponse_74 hX _ _ _ _ _ (i_ret ?_)
    refine ⟨rfl, f, _, rfl, ext_r f, ?_⟩
    rw [hc]
    exact hG1
  refine b_G_keepResponse_0 hX _ _ _ _ _ (i_aload rfl <| i_getf (c_cell hA h5' r1) rfl <| i_aload rfl <| i_getf hmc rfl <| i_aload rfl <| c_astq_r hmc hA h25 k1 ⟨rfl, m4, by omega⟩ <| i_aload rfl <| i_getf (c_cell hA h5' hr1) rfl <| j_rdS (sp_count (Z := Z) (km := rR (r_resp (gR S i) m)) (by omega) (c_cell hA h25 kk) (fun t ht => (kk' t ht).fm hE.im)) rfl rfl <| i_aload rfl <| i_getf (c_cell hA (by omega) hG1.1) rfl <| i_cmp ?_ ?_)
  · intro h
    have hn : ¬ cnt (rR (r_resp (gR S i) m)) N ≤ nI (N / 2) := Int32.not_le.mpr h
    have hkv := kk' (vv % N) hpn
    cases hq : va_up g1 (mS m) (some ma) (vv % N) with
    | none =>
      rw [hq] at hkv
      cases hk : rR (r_resp (gR S i) m) (vv % N) with
      | some L => rw [hk] at hkv; exact hkv.elim
      | none =>
        refine b_G_keepResponse_25 hX _ _ _ _ _ (i_aload rfl <| i_getf (c_cell hA h5' hr1) rfl <| j_rdS (sp_greatestView (Z := Z) (km := rR (r_resp (gR S i) m)) (by omega) (c_cell hA h25 kk) (fun t ht => (kk' t ht).fm hE.im)) rfl rfl <| i_istore <| i_aload rfl <| i_getf (c_cell hA h5' hr1) rfl <| i_aload rfl <| i_iload rfl <| j_rdV (c_cell hA (by omega) hG1.1) (sp_primaryOf hA hN hG1.1) rfl rfl <| i_aldq' (c_cell hA h25 kk) (⟨⟨hprim, hpn, by omega⟩, congrArg va_rf hq⟩) <| i_astore <| i_aload rfl <| i_null_n ?_)
        refine fin ?_ _ _ _ _
        rw [r_reco, if_neg hn, hpd, hk]
    | some q =>
      rw [hq] at hkv
      cases hk : rR (r_resp (gR S i) m) (vv % N) with
      | none => rw [hk] at hkv; exact hkv.elim
      | some L =>
        rw [hk] at hkv
        obtain ⟨qz, qva, qla, q1, q2, q3, q4, q5, q6⟩ := id hkv
        have hqc : ∀ c1, hC (5 + 5 * N) A f c1 q = _ := fun c1 => hE.im (cs := c1) _ _ qz q1
        refine b_G_keepResponse_25 hX _ _ _ _ _ (i_aload rfl <| i_getf (c_cell hA h5' hr1) rfl <| j_rdS (sp_greatestView (Z := Z) (km := rR (r_resp (gR S i) m)) (by omega) (c_cell hA h25 kk) (fun t ht => (kk' t ht).fm hE.im)) rfl rfl <| i_istore <| i_aload rfl <| i_getf (c_cell hA h5' hr1) rfl <| i_aload rfl <| i_iload rfl <| j_rdV (c_cell hA (by omega) hG1.1) (sp_primaryOf hA hN hG1.1) rfl rfl <| i_aldq' (c_cell hA h25 kk) (⟨⟨hprim, hpn, by omega⟩, congrArg va_rf hq⟩) <| i_astore <| i_aload rfl <| i_null_r ?_)
        refine b_G_keepResponse_50 hX _ _ _ _ _ (i_aload rfl <| i_getf (hqc _) rfl <| i_iload rfl <| i_cmp ?_ ?_)
        · intro hne
          refine fin ?_ _ _ _ _
          rw [r_reco, if_neg hn, hpd, hk]
          exact if_neg hne
        · intro heq
          refine b_G_keepResponse_59 hX _ _ _ _ _ (i_aload rfl <| i_iload rfl <| i_aload rfl <| i_getf (hqc _) rfl <| i_aload rfl <| i_getf (hqc _) rfl <| ?_)
          refine j_callV (c_cell hA h5' hr1) (sp_becomeNormal (la' := qla) (v := gvw (rR (r_resp (gR S i) m)) N) hA (by omega) (by omega) hR1 q3 q6) rfl rfl ?_
          rintro w F' ⟨rfl, c2, rfl, s2, hR2⟩
          refine (i_end ?_)
          refine b_G_keepResponse_74 hX _ _ _ _ _ (i_ret ?_)
          refine ⟨rfl, f, c2, rfl, ext_r f, ?_⟩
          have e : r_reco N (r_resp (gR S i) m) = r_normal (r_resp (gR S i) m) (gvw (rR (r_resp (gR S i) m)) N) (mG L) (mC L) := by
            rw [r_reco, if_neg hn, hpd, hk]
            exact if_pos (Classical.not_not.mp heq)
          rw [e]
          exact hG.rep (by omega) hi (ext_r f) (fun k hk => (s2 k hk).trans (hs1 k hk)) hR2
  · intro h
    refine b_G_keepResponse_24 hX _ _ _ _ _ (i_ret ?_)
    refine ⟨rfl, f, _, rfl, ext_r f, ?_⟩
    rw [r_reco, if_pos (Int32.not_lt.mp h)]
    exact hG1
end SPJ
end
section
section SPK
variable {l : Launch} {D : va_G} {cid : Nat → ClassId} {Z : Nat → Prop} {f : HF} {A : Nat → Nat} {N i : Nat} {cs : Nat → PC} {S : GS}
theorem sp_takeOk {ma : Nat} {m : Msg} (hE : En Z A N f) (hN : N = 3 ∨ N = 5) (hi : i < N) (hm : MsgR Z f N ma m) (hG : GRc Z f A N cs S) :
    CS l D cid m_G_takeOk [.ref (A 0), .ref (A (5 + 5 * i)), .ref ma] (hC (5 + 5 * N) A f cs) (PH Z f A N none (g_ok N S i m)) := by
  intro X hX
  have hA := hE.1
  have h5' : 5 + 5 * i < 5 + 5 * N := by omega
  have h10 : 6 + 5 * i < 5 + 5 * N := by omega
  have hR := hG.2.2.2.2.2 i hi
  obtain ⟨la, va, r1, r2, r3, r4, r5, r6, r7, r8, r9⟩ := id hR
  obtain ⟨ga, a1, a2⟩ := id r4
  obtain ⟨mz, mva, mla, m1, m2, m3, m4, m5, m6⟩ := id hm
  have hmc := hE.im (cs := cs) _ _ mz m1
  obtain ⟨mb, hmb⟩ := m3.cell
  obtain ⟨lb, hlb⟩ := r2.cell
  have hlen := r2.len
  have hmlen := m3.len
  have h19 : ¬ leads N (gR S i) i ∨ ¬ mV m = rV (gR S i) → ∀ x3 x4 x5 bc bs, FR l D cid m_G_takeOk X 19 [some (.ref (A 0)), some (.ref (A (5 + 5 * i))), some (.ref ma), x3, x4, x5] [] (hC (5 + 5 * N) A f cs) bc bs := by
    intro hc x3 x4 x5 bc bs
    refine b_G_takeOk_19 hX _ _ _ _ _ (i_ret ?_)
    refine ⟨rfl, f, cs, rfl, ext_r f, ?_⟩
    rw [g_ok, if_pos hc]
    exact hG
  refine b_G_takeOk_0 hX _ _ _ _ _ (i_aload rfl <| i_aload rfl <| j_rdV (c_cell hA (by omega) hG.1) (sp_leads hA hN (by omega) hG.1 r1) rfl rfl <| i_ifb ?_ ?_)
  · intro hl
    exact h19 (Or.inl (of_decide_eq_false hl)) _ _ _ _ _
  · intro hl
    refine b_G_takeOk_8 hX _ _ _ _ _ (i_aload rfl <| i_getf hmc rfl <| i_aload rfl <| i_getf (c_cell hA h5' r1) rfl <| i_cmp ?_ ?_)
    · intro hv
      have hc : ¬ (¬ leads N (gR S i) i ∨ ¬ mV m = rV (gR S i)) := fun q => q.elim (fun z => z (of_decide_eq_true hl)) (fun z => z hv)
      have ba : ∀ t, t < N → b24 (rA (r_ack (gR S i) m) t) := by
        intro t ht
        show b24 (va_up (rA (gR S i)) (mS m) (mx (rA (gR S i) (mS m)) (nI (mG m).length)) t)
        by_cases e : t = mS m
        · rw [e, va_s]
          exact b24_mx (r9 _ m4) ⟨_, hmlen, rfl⟩
        · rw [va_n e]
          exact r9 t ht
      have hga : ∀ t, t < N → upd ga (mS m) (mx (ga (mS m)) (nI (mG m).length)) t = rA (r_ack (gR S i) m) t := by
        intro t ht
        show _ = va_up (rA (gR S i)) (mS m) (mx (rA (gR S i) (mS m)) (nI (mG m).length)) t
        by_cases e : t = mS m
        · rw [e, va_s, upd_s, a2 _ m4]
        · rw [va_n e, upd_n e]
          exact a2 t ht
      have bc : b24 (akb (rA (r_ack (gR S i) m)) N (nI (N / 2)) (rC (gR S i)) N) := b24_akb r8 ba N (Nat.le_refl _)
      have hR1 : RepC Z f A N (va_up cs (6 + 5 * i) (.inr (.inl (0, N, upd ga (mS m) (mx (ga (mS m)) (nI (mG m).length)))))) i (r_ack (gR S i) m) :=
        ⟨la, va, (va_n (by omega)).trans r1, r2, r3, ⟨_, va_s _ _ _, hga⟩, r5.fm (ext_r f) (va_n (by omega)), r6.fm (ext_r f) (va_n (by omega)), r7.fm (ext_r f) (va_n (by omega)), r8, ba⟩
      have hs1 : ∀ k, ¬ W5 i k → va_up cs (6 + 5 * i) (.inr (.inl (0, N, upd ga (mS m) (mx (ga (mS m)) (nI (mG m).length))))) k = cs k := fun k hk => va_n (fun e => hk (Or.inr (Or.inl e)))
      have hG1 := hG.rep (by omega) hi (ext_r f) hs1 hR1
      have hr1 : va_up cs (6 + 5 * i) (.inr (.inl (0, N, upd ga (mS m) (mx (ga (mS m)) (nI (mG m).length))))) (5 + 5 * i) = .inl (2, robj A i la va (gR S i)) := (va_n (by omega)).trans r1
      have hR2 := RepC.set (R' := r_com (r_ack (gR S i) m) (akb (rA (r_ack (gR S i) m)) N (nI (N / 2)) (rC (gR S i)) N)) (ext_r f) hR1 (by omega) r2 r3 rfl rfl rfl rfl bc
      have hG2 := hG1.rep (by omega) hi (ext_r f) (fun k hk => va_n (fun e => hk (Or.inl e))) hR2
      rw [g_rep_rep] at hG2
      obtain ⟨c0, hc0, ec0⟩ := r8
      obtain ⟨L0, hL0, eL0⟩ := b24_mn bc ⟨_, hlen, rfl⟩
      have loop : ∀ (n c : Nat) (c1 : Nat → PC) (S1 : GS) (x3 : Option Value), n = L0 + 1 - c → c ≤ 30 → GRc Z f A N c1 S1 → c1 (5 + 5 * i) = .inl (2, robj A i la va (r_com (r_ack (gR S i) m) (akb (rA (r_ack (gR S i) m)) N (nI (N / 2)) (rC (gR S i)) N))) → g_anss (rG (gR S i)) n (nI c) S1 = g_ok N S i m → ∀ bc bs, FR l D cid m_G_takeOk X 86 [some (.ref (A 0)), some (.ref (A (5 + 5 * i))), some (.ref ma), x3, some (.int (nI L0)), some (.int (nI c))] [] (hC (5 + 5 * N) A f c1) bc bs := by
        intro n
        induction n with
        | zero =>
          intro c c1 S1 x3 hn hc30 hg ho he bc bs
          refine b_G_takeOk_86 hX _ _ _ _ _ (i_iload rfl <| i_iload rfl <| i_cmp_t (nI_lt (by omega) (by omega)) ?_)
          refine b_G_takeOk_112 hX _ _ _ _ _ (i_ret ?_)
          refine ⟨rfl, f, c1, rfl, ext_r f, ?_⟩
          rw [← he]
          exact hg
        | succ n ih =>
          intro c c1 S1 x3 hn hc30 hg ho he bc bs
          refine b_G_takeOk_86 hX _ _ _ _ _ (i_iload rfl <| i_iload rfl <| i_cmp_f (nI_nlt (by omega) (by omega)) ?_)
          refine b_G_takeOk_93 hX _ _ _ _ _ (i_aload rfl <| i_aload rfl <| i_getf (c_cell hA h5' ho) rfl <| i_iload rfl <| ?_)
          refine j_callV (hE.im _ _ r2.nz hlb) (sp_firstEntries (Z := Z) (c := nI c) hE.im r2) rfl rfl ?_
          rintro v F' ⟨rfl, b, rfl, hb'⟩
          refine (?_)
          refine j_callV (c_cell hA (by omega) hg.1) (sp_answerClient hE hg hb') rfl rfl ?_
          rintro v F' ⟨rfl, c2, rfl, s2, hg2⟩
          refine (i_iinc rfl <| i_end ?_)
          have h := ih (c + 1) c2 _ x3 (by omega) (by omega) hg2 ((s2 _ (by omega) (by omega)).trans ho) (by rw [← he, g_anss, nI_succ]) bc bs
          rw [nI_succ] at h
          exact h
      refine b_G_takeOk_20 hX _ _ _ _ _ (i_aload rfl <| i_getf (c_cell hA h5' r1) rfl <| i_aload rfl <| i_getf hmc rfl <| i_aload rfl <| i_getf (c_cell hA h5' r1) rfl <| i_aload rfl <| i_getf hmc rfl <| i_ald (c_cell hA h10 a1) ⟨rfl, m4, by omega⟩ <| i_aload rfl <| i_getf hmc rfl <| i_getf (hE.im _ _ m3.nz hmb) rfl <| j_rdS (sp_max) rfl rfl <| c_ast hA h10 a1 ⟨rfl, m4, by omega⟩ <| i_aload rfl <| i_getf (c_cell hA h5' hr1) rfl <| i_istore <| i_aload rfl <| i_aload rfl <| i_aload rfl <| i_getf (c_cell hA (by omega) hG1.1) rfl <| j_rdV (c_cell hA h5' hr1) (sp_ackedBy (R := gR S i) hA (by omega) (by omega) hr1 (va_s _ _ _) hga) rfl rfl <| c_putI hA h5' hr1 rfl <| i_aload rfl <| i_getf (c_cell hA h5' (va_s _ _ _)) rfl <| i_aload rfl <| i_getf (c_cell hA h5' (va_s _ _ _)) rfl <| i_getf (hE.im _ _ r2.nz hlb) rfl <| j_rdS (sp_min) rfl rfl <| i_istore <| i_iload rfl <| i_push <| i_bin <| i_istore <| i_end ?_)
      have h := loop (L0 + 1 - (c0 + 1)) (c0 + 1) _ _ (some (.int (rC (gR S i)))) rfl (by omega) hG2 (va_s _ _ _) ?_
      · rw [nI_succ, ← ec0, ← eL0] at h
        exact h _ _
      · rw [g_ok, if_neg hc, eL0, ec0, nI_toInt (by omega), nI_toInt (by omega), nI_succ]
        congr 1
        omega
    · intro hv
      exact h19 (Or.inr hv) _ _ _ _ _
theorem sp_findMessage {k : Int32} (hE : En Z A N f) (hG : GRc Z f A N cs S) (hT : gT S < 2 ^ 30) :
    CS l D cid m_G_findMessage [.ref (A 0), .int k] (hC (5 + 5 * N) A f cs) (fun v F' => F' = hC (5 + 5 * N) A f cs ∧ ((fms S k = none ∧ v = some .null) ∨ ∃ kk q, fms S k = some kk ∧ kk < gT S ∧ v = some (.ref q) ∧ MsgR Z f N q (gM S kk))) := by
  intro X hX
  have hA := hE.1
  obtain ⟨h0, h1, ⟨g2, e2, n2⟩, h3⟩ := id hG
  have h27 : fms S k = none → ∀ x2 bc bs, FR l D cid m_G_findMessage X 27 [some (.ref (A 0)), some (.int k), x2] [] (hC (5 + 5 * N) A f cs) bc bs := by
    intro hn x2 bc bs
    refine b_G_findMessage_27 hX _ _ _ _ _ (i_push <| i_end ?_)
    refine b_G_findMessage_28 hX _ _ _ _ _ (i_istore <| i_iload rfl <| i_if_t rfl ?_)
    refine b_G_findMessage_45 hX _ _ _ _ _ (i_push <| i_end ?_)
    refine b_G_findMessage_46 hX _ _ _ _ _ (i_aret ?_)
    exact ⟨rfl, Or.inl ⟨hn, rfl⟩⟩
  refine b_G_findMessage_0 hX _ _ _ _ _ (i_iload rfl <| i_if ?_ ?_)
  · intro h
    exact h27 (if_neg (fun q => q.1 h)) _ _ _
  · intro h
    obtain ⟨kk, hkk, rfl⟩ := nI_of h
    have hcl := nI_clamp hkk
    refine b_G_findMessage_4 hX _ _ _ _ _ (i_iload rfl <| i_aload rfl <| i_getf (c_cell hA (by omega) h0) rfl <| i_cmp ?_ ?_)
    · intro h'
      refine h27 (if_neg (fun q => ?_)) _ _ _
      rw [hcl] at q
      exact nI_ge q.2.1 (by omega) h'
    · intro h'
      have hlt : kk < gT S := by
        rcases Nat.lt_or_ge kk (gT S) with h2 | h2
        · exact h2
        · exact absurd (nI_le h2 hkk) h'
      refine b_G_findMessage_12 hX _ _ _ _ _ (i_aload rfl <| i_getf (c_cell hA (by omega) h0) rfl <| i_iload rfl <| i_bin <| i_push <| i_cmp ?_ ?_)
      · intro h''
        rw [pk_sub (by omega)] at h''
        refine h27 (if_neg (fun q => ?_)) _ _ _
        rw [hcl] at q
        exact nI_nlt (a := 64) (b := gT S - kk) (by omega) (by omega) h''
      · intro h''
        rw [pk_sub (by omega)] at h''
        have hle : gT S ≤ kk + 64 := by
          rcases Nat.lt_or_ge 64 (gT S - kk) with h2 | h2
          · exact absurd (nI_lt h2 (by omega)) h''
          · omega
        obtain ⟨q, hq, hm⟩ := n2 kk hlt hle
        refine b_G_findMessage_23 hX _ _ _ _ _ (i_push <| i_end ?_)
        refine b_G_findMessage_28 hX _ _ _ _ _ (i_istore <| i_iload rfl <| i_if_f (by decide) ?_)
        refine b_G_findMessage_33 hX _ _ _ _ _ (i_aload rfl <| i_getf (c_cell hA (by omega) h0) rfl <| i_iload rfl <| i_push <| i_binz (by decide) <| i_aldq' (c_cell hA (by omega) e2) (⟨⟨pk_rem (d := 64) hkk (by decide) (by decide), Nat.mod_lt _ (by decide), Nat.lt_trans (Nat.mod_lt _ (by decide)) (by decide)⟩, congrArg va_rf hq⟩) <| i_end ?_)
        refine b_G_findMessage_46 hX _ _ _ _ _ (i_aret ?_)
        refine ⟨rfl, Or.inr ⟨kk, q, ?_, hlt, rfl, hm⟩⟩
        rw [fms, hcl, if_pos ⟨h, hlt, hle⟩]
end SPK
end
section
section SPL
variable {l : Launch} {D : va_G} {cid : Nat → ClassId} {Z : Nat → Prop} {f : HF} {A : Nat → Nat} {N i : Nat} {cs : Nat → PC} {S : GS}
theorem i_sw8 {lv : LV} {r : List Value} {F : HF} {bc bs : Nat} {x : Int32} {k1 k2 k3 k4 k5 k6 k7 k8 kd : KN} (h1 : x = 1 → k1 lv r F bc bs) (h2 : x = 2 → k2 lv r F bc bs) (h3 : x = 3 → k3 lv r F bc bs) (h4 : x = 4 → k4 lv r F bc bs) (h5 : x = 5 → k5 lv r F bc bs) (h6 : x = 6 → k6 lv r F bc bs) (h7 : x = 7 → k7 lv r F bc bs) (h8 : x = 8 → k8 lv r F bc bs)
    (hd : ¬ x = 1 → ¬ x = 2 → ¬ x = 3 → ¬ x = 4 → ¬ x = 5 → ¬ x = 6 → ¬ x = 7 → ¬ x = 8 → kd lv r F bc bs) : seg [] (t_sw 1 8 [k1, k2, k3, k4, k5, k6, k7, k8] kd) lv (.int x :: r) F bc bs := by
  have e : ∀ n : Nat, n < 2 ^ 31 → x.toInt = (n : Int) → x = nI n := fun n hn h => Int32.toInt_inj.mp (h.trans (nI_toInt hn).symm)
  have o : ∀ n : Nat, n < 2 ^ 31 → x = nI n → x.toInt = (n : Int) := fun n hn h => by rw [h, nI_toInt hn]
  refine ⟨x, r, rfl, fun h => ?_, fun i k hi hk => ?_⟩
  · exact hd (fun q => by have := o 1 (by decide) q; omega) (fun q => by have := o 2 (by decide) q; omega) (fun q => by have := o 3 (by decide) q; omega) (fun q => by have := o 4 (by decide) q; omega) (fun q => by have := o 5 (by decide) q; omega) (fun q => by have := o 6 (by decide) q; omega) (fun q => by have := o 7 (by decide) q; omega) (fun q => by have := o 8 (by decide) q; omega)
  · rcases i with _ | _ | _ | _ | _ | _ | _ | _ | i
    · cases hk; exact h1 (e 1 (by decide) hi)
    · cases hk; exact h2 (e 2 (by decide) hi)
    · cases hk; exact h3 (e 3 (by decide) hi)
    · cases hk; exact h4 (e 4 (by decide) hi)
    · cases hk; exact h5 (e 5 (by decide) hi)
    · cases hk; exact h6 (e 6 (by decide) hi)
    · cases hk; exact h7 (e 7 (by decide) hi)
    · cases hk; exact h8 (e 8 (by decide) hi)
    · simp at hk
theorem sp_receive {q : Nat} {m : Msg} (hE : En Z A N f) (hN : N = 3 ∨ N = 5) (hm : MsgR Z f N q m) (hG : GRc Z f A N cs S) (hT : gT S < 2 ^ 28) (hV : VI N S) (hmv : sml (mV m)) :
    CS l D cid m_G_receive [.ref (A 0), .ref q] (hC (5 + 5 * N) A f cs) (PH Z f A N (some (.int (g_recv N S m).1)) (g_recv N S m).2) := by
  intro X hX
  have hA := hE.1
  obtain ⟨mz, mva, mla, m1, m2, m3, m4, m5, m6⟩ := id hm
  have h5' : 5 + 5 * mD m < 5 + 5 * N := by omega
  obtain ⟨h0, ⟨g1, e1, n1⟩, h2, h3, h4, h5⟩ := id hG
  have hR := h5 (mD m) m5
  obtain ⟨la, va, r1, r2, r3, r4⟩ := id hR
  have hmc := hE.im (cs := cs) _ _ mz m1
  have hrc := c_cell (f := f) hA h5' r1
  refine b_G_receive_0 hX _ _ _ _ _ (i_aload rfl <| i_getf (c_cell hA (by omega) h0) rfl <| i_aload rfl <| i_getf hmc rfl <| i_aldq' (c_cell hA (by omega) e1) (⟨⟨rfl, m5, by omega⟩, congrArg va_rf (n1 _ m5)⟩) <| i_astore <| i_aload rfl <| i_aload rfl <| j_rdS (sp_hears hrc hmc) rfl rfl <| i_ifbn ?_ ?_)
  · intro hh
    have hh' := of_decide_eq_true hh
    refine b_G_receive_20 hX _ _ _ _ _ (i_aload rfl <| i_aload rfl <| j_rdS (sp_isOutdated (Z := Z) (by omega) m5 m4 hrc hmc (r3.fm hE.im) (m2.fm hE.im)) rfl rfl <| i_ifb ?_ ?_)
    · intro ho
      have ho' := of_decide_eq_false ho
      have eS : g_recv N S m = (2, g_kind N (g_rep S (mD m) (r_raise (gR S (mD m)) (mX m))) (mD m) m) := by
        rw [g_recv, if_neg (fun z => z hh'), if_neg ho']
      refine b_G_receive_30 hX _ _ _ _ _ (i_aload rfl <| i_aload rfl <| i_getf hmc rfl <| ?_)
      refine j_callV hrc (sp_raiseVector hE (by omega) (by omega) hR m2) rfl rfl ?_
      rintro v F' ⟨rfl, f1, c1, rfl, x1, s1, hR1⟩
      have hE1 := hE.ext x1
      obtain ⟨la1, va1, p1, p2⟩ := id hR1
      refine (i_aload rfl <| ?_)
      refine j_callV (c_cell hA h5' p1) (sp_forgetOutdated hE1 (by omega) (by omega) hR1) rfl rfl ?_
      rintro v F' ⟨rfl, c2, rfl, s2, hR2⟩
      have hG2 : GRc Z f1 A N c2 (g_rep S (mD m) (r_raise (gR S (mD m)) (mX m))) := hG.rep (by omega) m5 x1 (fun k hk => (s2 k hk).trans (s1 k (fun e => hk (Or.inl e)))) hR2
      have hmq : MsgR Z f1 N q m := hm.fm (fun a c _ h => x1 a c h)
      have hmc2 : ∀ c, hC (5 + 5 * N) A f1 c q = _ := fun c => hE1.im (cs := c) _ _ mz (x1 _ _ m1)
      have hRi : gR (g_rep S (mD m) (r_raise (gR S (mD m)) (mX m))) (mD m) = r_raise (gR S (mD m)) (mX m) := va_s _ _ _
      have fin : ∀ (f3 : HF) (c3 : Nat → PC) (S3 : GS) (bc bs : Nat), Ext f f3 → GRc Z f3 A N c3 S3 → S3 = g_kind N (g_rep S (mD m) (r_raise (gR S (mD m)) (mX m))) (mD m) m → FR l D cid m_G_receive X 185 [some (.ref (A 0)), some (.ref q), some (.ref (A (5 + 5 * mD m)))] [] (hC (5 + 5 * N) A f3 c3) bc bs := by
        intro f3 c3 S3 bc bs x3 hg3 he
        refine b_G_receive_185 hX _ _ _ _ _ (i_push <| i_iret ?_)
        rw [eS]
        refine ⟨rfl, f3, c3, rfl, x3, ?_⟩
        rw [← he]
        exact hg3
      have hT2 : gT (g_rep S (mD m) (r_raise (gR S (mD m)) (mX m))) < 2 ^ 28 := hT
      have hVr : sml (rV (gR (g_join N (g_rep S (mD m) (r_raise (gR S (mD m)) (mX m))) (mD m) m) (mD m))) := by
        rw [g_join]
        split
        · show sml (rV (gR (g_all _ (mD m) 5 N) (mD m)))
          rw [g_all_R, g_rep_R]
          exact hmv
        · rw [hRi]
          exact (hV _ m5).1
      have hTj : gT (g_join N (g_rep S (mD m) (r_raise (gR S (mD m)) (mX m))) (mD m) m) < 2 ^ 29 := by
        rw [g_join]
        split
        · have := g_all_T (g_rep (g_rep S (mD m) (r_raise (gR S (mD m)) (mX m))) (mD m) (r_start (gR (g_rep S (mD m) (r_raise (gR S (mD m)) (mX m))) (mD m)) (mV m))) (mD m) 5 N
          have h9 : gT (g_rep (g_rep S (mD m) (r_raise (gR S (mD m)) (mX m))) (mD m) (r_start (gR (g_rep S (mD m) (r_raise (gR S (mD m)) (mX m))) (mD m)) (mV m))) = gT S := rfl
          rw [h9] at this
          refine Nat.lt_of_le_of_lt this ?_
          omega
        · exact Nat.lt_trans hT2 (by decide)
      have hres : ∃ v : Nat, v < 2 ^ 31 ∧ gvw (rR (r_resp (gR (g_rep S (mD m) (r_raise (gR S (mD m)) (mX m))) (mD m)) m)) N = nI v := by
        refine (sml_gvw (fun s mm hs hmm => ?_)).ex
        rw [hRi] at hmm
        have hmm' : va_up (drp (rR (gR S (mD m))) (rse (rX (gR S (mD m))) (mX m))) (mS m) (some m) s = some mm := hmm
        by_cases e : s = mS m
        · rw [e, va_s] at hmm'
          cases hmm'
          exact hmv
        · rw [va_n e] at hmm'
          cases hk : rR (gR S (mD m)) s with
          | none => rw [drp_n hk] at hmm'; cases hmm'
          | some m' =>
            rw [drp_s hk] at hmm'
            split at hmm'
            · cases hmm'
            · cases hmm'
              exact (hV _ m5).2 s _ hs hk
      refine (i_aload rfl <| i_getf (hmc2 _) rfl <| i_sw8 ?_ ?_ ?_ ?_ ?_ ?_ ?_ ?_ ?_)
      · intro hk
        refine b_G_receive_92 hX _ _ _ _ _ (i_aload rfl <| i_aload rfl <| i_aload rfl <| ?_)
        refine j_callV (c_cell hA (by omega) hG2.1) (sp_takePrepare hE1 hN m5 hmq hG2 (Nat.lt_trans hT2 (by decide))) rfl rfl ?_
        rintro v F' ⟨rfl, f3, c3, rfl, x3, hg3⟩
        refine (i_end ?_)
        exact fin f3 c3 _ _ _ (x1.trans x3) hg3 (by rw [g_kind, if_pos hk])
      · intro hk
        refine b_G_receive_101 hX _ _ _ _ _ (i_aload rfl <| i_aload rfl <| i_aload rfl <| ?_)
        refine j_callV (c_cell hA (by omega) hG2.1) (sp_takeOk hE1 hN m5 hmq hG2) rfl rfl ?_
        rintro v F' ⟨rfl, f3, c3, rfl, x3, hg3⟩
        refine (i_end ?_)
        exact fin f3 c3 _ _ _ (x1.trans x3) hg3 (by rw [g_kind, hk, if_neg (by decide), if_pos rfl])
      · intro hk
        refine b_G_receive_110 hX _ _ _ _ _ (i_aload rfl <| i_aload rfl <| i_aload rfl <| i_push <| ?_)
        refine j_callV (c_cell hA (by omega) hG2.1) (sp_replyIfNormal (kind := 4) hE1 hN m5 hmq hG2 (Nat.lt_trans hT2 (by decide))) rfl rfl ?_
        rintro v F' ⟨rfl, f3, c3, rfl, x3, hg3⟩
        refine (i_end ?_)
        exact fin f3 c3 _ _ _ (x1.trans x3) hg3 (by rw [g_kind, hk, if_neg (by decide), if_neg (by decide), if_pos rfl])
      · intro hk
        refine b_G_receive_120 hX _ _ _ _ _ (i_aload rfl <| i_aload rfl <| i_aload rfl <| ?_)
        refine j_callV (c_cell hA (by omega) hG2.1) (sp_takeState hE1 hN m5 hmq hG2 (Nat.lt_trans hT2 (by decide)) hmv.ex) rfl rfl ?_
        rintro v F' ⟨rfl, f3, c3, rfl, x3, hg3⟩
        refine (i_end ?_)
        exact fin f3 c3 _ _ _ (x1.trans x3) hg3 (by rw [g_kind, hk, if_neg (by decide), if_neg (by decide), if_neg (by decide), if_pos rfl])
      · intro hk
        refine b_G_receive_129 hX _ _ _ _ _ (i_aload rfl <| i_aload rfl <| i_aload rfl <| ?_)
        refine j_callV (c_cell hA (by omega) hG2.1) (sp_joinChange hE1 hN m5 hmq hG2 (Nat.lt_trans hT2 (by decide))) rfl rfl ?_
        rintro v F' ⟨rfl, f3, c3, rfl, x3, hg3⟩
        have hE3 := hE1.ext x3
        refine (i_ifb ?_ ?_)
        · intro hb
          exact fin f3 c3 _ _ _ (x1.trans x3) hg3 (by rw [g_kind, hk, if_neg (by decide), if_neg (by decide), if_neg (by decide), if_neg (by decide), if_pos rfl, if_neg (of_decide_eq_false hb)])
        · intro hb
          refine b_G_receive_138 hX _ _ _ _ _ (i_aload rfl <| i_aload rfl <| i_aload rfl <| ?_)
          refine j_callV (c_cell hA (by omega) hg3.1) (sp_keepVote hE3 hN m5 (hmq.fm (fun a c _ h => x3 a c h)) hg3 hTj hVr.ex) rfl rfl ?_
          rintro v F' ⟨rfl, f4, c4, rfl, x4, hg4⟩
          refine (i_end ?_)
          exact fin f4 c4 _ _ _ (x1.trans (x3.trans x4)) hg4 (by rw [g_kind, hk, if_neg (by decide), if_neg (by decide), if_neg (by decide), if_neg (by decide), if_pos rfl, if_pos (of_decide_eq_true hb)])
      · intro hk
        refine b_G_receive_147 hX _ _ _ _ _ (i_aload rfl <| i_aload rfl <| i_aload rfl <| ?_)
        refine j_callV (c_cell hA (by omega) hG2.1) (sp_joinChange hE1 hN m5 hmq hG2 (Nat.lt_trans hT2 (by decide))) rfl rfl ?_
        rintro v F' ⟨rfl, f3, c3, rfl, x3, hg3⟩
        have hE3 := hE1.ext x3
        refine (i_ifb ?_ ?_)
        · intro hb
          exact fin f3 c3 _ _ _ (x1.trans x3) hg3 (by rw [g_kind, hk, if_neg (by decide), if_neg (by decide), if_neg (by decide), if_neg (by decide), if_neg (by decide), if_pos rfl, if_neg (of_decide_eq_false hb)])
        · intro hb
          refine b_G_receive_156 hX _ _ _ _ _ (i_aload rfl <| i_aload rfl <| i_aload rfl <| ?_)
          refine j_callV (c_cell hA (by omega) hg3.1) (sp_keepPaper hE3 hN m5 (hmq.fm (fun a c _ h => x3 a c h)) hg3 hTj) rfl rfl ?_
          rintro v F' ⟨rfl, f4, c4, rfl, x4, hg4⟩
          refine (i_end ?_)
          exact fin f4 c4 _ _ _ (x1.trans (x3.trans x4)) hg4 (by rw [g_kind, hk, if_neg (by decide), if_neg (by decide), if_neg (by decide), if_neg (by decide), if_neg (by decide), if_pos rfl, if_pos (of_decide_eq_true hb)])
      · intro hk
        refine b_G_receive_165 hX _ _ _ _ _ (i_aload rfl <| i_aload rfl <| i_aload rfl <| i_push <| ?_)
        refine j_callV (c_cell hA (by omega) hG2.1) (sp_replyIfNormal (kind := 8) hE1 hN m5 hmq hG2 (Nat.lt_trans hT2 (by decide))) rfl rfl ?_
        rintro v F' ⟨rfl, f3, c3, rfl, x3, hg3⟩
        refine (i_end ?_)
        exact fin f3 c3 _ _ _ (x1.trans x3) hg3 (by rw [g_kind, hk, if_neg (by decide), if_neg (by decide), if_neg (by decide), if_neg (by decide), if_neg (by decide), if_neg (by decide), if_pos rfl])
      · intro hk
        refine b_G_receive_176 hX _ _ _ _ _ (i_aload rfl <| i_aload rfl <| i_aload rfl <| ?_)
        refine j_callV (c_cell hA (by omega) hG2.1) (sp_keepResponse hE1 hN m5 hmq hG2 hres) rfl rfl ?_
        rintro v F' ⟨rfl, f3, c3, rfl, x3, hg3⟩
        refine (i_end ?_)
        exact fin f3 c3 _ _ _ (x1.trans x3) hg3 (by rw [g_kind, hk, if_neg (by decide), if_neg (by decide), if_neg (by decide), if_neg (by decide), if_neg (by decide), if_neg (by decide), if_neg (by decide), if_pos rfl])
      · intro k1 k2 k3 k4 k5 k6 k7 k8
        exact fin f1 c2 _ _ _ x1 hG2 (by rw [g_kind, if_neg k1, if_neg k2, if_neg k3, if_neg k4, if_neg k5, if_neg k6, if_neg k7, if_neg k8])
    · intro ho
      refine b_G_receive_28 hX _ _ _ _ _ (i_push <| i_iret ?_)
      have eS : g_recv N S m = (1, S) := by
        rw [g_recv, if_neg (fun z => z hh'), if_pos (of_decide_eq_true ho)]
      rw [eS]
      exact ⟨rfl, f, cs, rfl, ext_r f, hG⟩
  · intro hh
    refine b_G_receive_18 hX _ _ _ _ _ (i_push <| i_iret ?_)
    have eS : g_recv N S m = (0, S) := by
      rw [g_recv, if_pos (of_decide_eq_false hh)]
    rw [eS]
    exact ⟨rfl, f, cs, rfl, ext_r f, hG⟩
end SPL
end
section
section SPM
variable {l : Launch} {D : va_G} {cid : Nat → ClassId} {Z : Nat → Prop} {f : HF} {A : Nat → Nat} {N i : Nat} {cs : Nat → PC} {S : GS}
theorem sp_status {x : Int32} (hE : En Z A N f) (hN : N = 3 ∨ N = 5) (hG : GRc Z f A N cs S) : CS l D cid m_G_status [.ref (A 0), .int x] (hC (5 + 5 * N) A f cs) (PH Z f A N (some (.int (p_status N S x))) S) := by
  intro X hX
  have hA := hE.1
  obtain ⟨h0, ⟨g1, e1, n1⟩, h2⟩ := id hG
  refine b_G_status_0 hX _ _ _ _ _ (i_aload rfl <| i_iload rfl <| j_rdV (c_cell hA (by omega) h0) (sp_isReplica hA h0) rfl rfl <| i_ifb ?_ ?_)
  · intro hb
    refine b_G_status_20 hX _ _ _ _ _ (i_push <| i_end ?_)
    refine b_G_status_21 hX _ _ _ _ _ (i_iret ?_)
    exact ⟨by rw [p_status, if_neg (by rw [hb]; decide)], f, cs, rfl, ext_r f, hG⟩
  · intro hb
    obtain ⟨i, hi, rfl⟩ := isR_t (by omega) hb
    have hcl : (nI i).toNatClampNeg = i := nI_clamp (by omega)
    obtain ⟨la, va, r1, r2, r3⟩ := hG.2.2.2.2.2 i hi
    obtain ⟨lb, hlb⟩ := r2.cell
    have hlc := hE.im (cs := cs) _ _ r2.nz hlb
    have h5' : 5 + 5 * i < 5 + 5 * N := by omega
    refine b_G_status_8 hX _ _ _ _ _ (i_aload rfl <| i_getf (c_cell hA (by omega) h0) rfl <| i_iload rfl <| i_aldq' (c_cell hA (by omega) e1) (⟨⟨rfl, hi, by omega⟩, congrArg va_rf (n1 i hi)⟩) <| i_getf (c_cell hA h5' r1) rfl <| i_end ?_)
    refine b_G_status_21 hX _ _ _ _ _ (i_iret ?_)
    exact ⟨by rw [p_status, if_pos hb, rp, hcl], f, cs, rfl, ext_r f, hG⟩
theorem sp_view {x : Int32} (hE : En Z A N f) (hN : N = 3 ∨ N = 5) (hG : GRc Z f A N cs S) : CS l D cid m_G_view [.ref (A 0), .int x] (hC (5 + 5 * N) A f cs) (PH Z f A N (some (.int (p_view N S x))) S) := by
  intro X hX
  have hA := hE.1
  obtain ⟨h0, ⟨g1, e1, n1⟩, h2⟩ := id hG
  refine b_G_view_0 hX _ _ _ _ _ (i_aload rfl <| i_iload rfl <| j_rdV (c_cell hA (by omega) h0) (sp_isReplica hA h0) rfl rfl <| i_ifb ?_ ?_)
  · intro hb
    refine b_G_view_20 hX _ _ _ _ _ (i_push <| i_end ?_)
    refine b_G_view_21 hX _ _ _ _ _ (i_iret ?_)
    exact ⟨by rw [p_view, if_neg (by rw [hb]; decide)], f, cs, rfl, ext_r f, hG⟩
  · intro hb
    obtain ⟨i, hi, rfl⟩ := isR_t (by omega) hb
    have hcl : (nI i).toNatClampNeg = i := nI_clamp (by omega)
    obtain ⟨la, va, r1, r2, r3⟩ := hG.2.2.2.2.2 i hi
    obtain ⟨lb, hlb⟩ := r2.cell
    have hlc := hE.im (cs := cs) _ _ r2.nz hlb
    have h5' : 5 + 5 * i < 5 + 5 * N := by omega
    refine b_G_view_8 hX _ _ _ _ _ (i_aload rfl <| i_getf (c_cell hA (by omega) h0) rfl <| i_iload rfl <| i_aldq' (c_cell hA (by omega) e1) (⟨⟨rfl, hi, by omega⟩, congrArg va_rf (n1 i hi)⟩) <| i_getf (c_cell hA h5' r1) rfl <| i_end ?_)
    refine b_G_view_21 hX _ _ _ _ _ (i_iret ?_)
    exact ⟨by rw [p_view, if_pos hb, rp, hcl], f, cs, rfl, ext_r f, hG⟩
theorem sp_commit {x : Int32} (hE : En Z A N f) (hN : N = 3 ∨ N = 5) (hG : GRc Z f A N cs S) : CS l D cid m_G_commit [.ref (A 0), .int x] (hC (5 + 5 * N) A f cs) (PH Z f A N (some (.int (p_commit N S x))) S) := by
  intro X hX
  have hA := hE.1
  obtain ⟨h0, ⟨g1, e1, n1⟩, h2⟩ := id hG
  refine b_G_commit_0 hX _ _ _ _ _ (i_aload rfl <| i_iload rfl <| j_rdV (c_cell hA (by omega) h0) (sp_isReplica hA h0) rfl rfl <| i_ifb ?_ ?_)
  · intro hb
    refine b_G_commit_20 hX _ _ _ _ _ (i_push <| i_end ?_)
    refine b_G_commit_21 hX _ _ _ _ _ (i_iret ?_)
    exact ⟨by rw [p_commit, if_neg (by rw [hb]; decide)], f, cs, rfl, ext_r f, hG⟩
  · intro hb
    obtain ⟨i, hi, rfl⟩ := isR_t (by omega) hb
    have hcl : (nI i).toNatClampNeg = i := nI_clamp (by omega)
    obtain ⟨la, va, r1, r2, r3⟩ := hG.2.2.2.2.2 i hi
    obtain ⟨lb, hlb⟩ := r2.cell
    have hlc := hE.im (cs := cs) _ _ r2.nz hlb
    have h5' : 5 + 5 * i < 5 + 5 * N := by omega
    refine b_G_commit_8 hX _ _ _ _ _ (i_aload rfl <| i_getf (c_cell hA (by omega) h0) rfl <| i_iload rfl <| i_aldq' (c_cell hA (by omega) e1) (⟨⟨rfl, hi, by omega⟩, congrArg va_rf (n1 i hi)⟩) <| i_getf (c_cell hA h5' r1) rfl <| i_end ?_)
    refine b_G_commit_21 hX _ _ _ _ _ (i_iret ?_)
    exact ⟨by rw [p_commit, if_pos hb, rp, hcl], f, cs, rfl, ext_r f, hG⟩
theorem sp_length {x : Int32} (hE : En Z A N f) (hN : N = 3 ∨ N = 5) (hG : GRc Z f A N cs S) : CS l D cid m_G_length [.ref (A 0), .int x] (hC (5 + 5 * N) A f cs) (PH Z f A N (some (.int (p_length N S x))) S) := by
  intro X hX
  have hA := hE.1
  obtain ⟨h0, ⟨g1, e1, n1⟩, h2⟩ := id hG
  refine b_G_length_0 hX _ _ _ _ _ (i_aload rfl <| i_iload rfl <| j_rdV (c_cell hA (by omega) h0) (sp_isReplica hA h0) rfl rfl <| i_ifb ?_ ?_)
  · intro hb
    refine b_G_length_23 hX _ _ _ _ _ (i_push <| i_end ?_)
    refine b_G_length_24 hX _ _ _ _ _ (i_iret ?_)
    exact ⟨by rw [p_length, if_neg (by rw [hb]; decide)], f, cs, rfl, ext_r f, hG⟩
  · intro hb
    obtain ⟨i, hi, rfl⟩ := isR_t (by omega) hb
    have hcl : (nI i).toNatClampNeg = i := nI_clamp (by omega)
    obtain ⟨la, va, r1, r2, r3⟩ := hG.2.2.2.2.2 i hi
    obtain ⟨lb, hlb⟩ := r2.cell
    have hlc := hE.im (cs := cs) _ _ r2.nz hlb
    have h5' : 5 + 5 * i < 5 + 5 * N := by omega
    refine b_G_length_8 hX _ _ _ _ _ (i_aload rfl <| i_getf (c_cell hA (by omega) h0) rfl <| i_iload rfl <| i_aldq' (c_cell hA (by omega) e1) (⟨⟨rfl, hi, by omega⟩, congrArg va_rf (n1 i hi)⟩) <| i_getf (c_cell hA h5' r1) rfl <| i_getf hlc rfl <| i_end ?_)
    refine b_G_length_24 hX _ _ _ _ _ (i_iret ?_)
    exact ⟨by rw [p_length, if_pos hb, rp, hcl], f, cs, rfl, ext_r f, hG⟩
theorem sp_sent (hE : En Z A N f) (hG : GRc Z f A N cs S) : CS l D cid m_G_sent [.ref (A 0)] (hC (5 + 5 * N) A f cs) (PH Z f A N (some (.int (nI (gT S)))) S) := by
  intro X hX
  have hA := hE.1
  refine b_G_sent_0 hX _ _ _ _ _ (i_aload rfl <| i_getf (c_cell hA (by omega) hG.1) rfl <| i_iret ?_)
  exact ⟨rfl, f, cs, rfl, ext_r f, hG⟩
theorem sp_answered {x : Int32} (hE : En Z A N f) (hG : GRc Z f A N cs S) : CS l D cid m_G_answered [.ref (A 0), .int x] (hC (5 + 5 * N) A f cs) (PH Z f A N (some (.int (p_answered S x))) S) := by
  intro X hX
  have hA := hE.1
  obtain ⟨h0, h1, h2, h3, h4, h5⟩ := id hG
  obtain ⟨g, e, n⟩ := h3
  refine b_G_answered_0 hX _ _ _ _ _ (i_iload rfl <| j_rdS (sp_isClient) rfl rfl <| i_ifb ?_ ?_)
  · intro hb
    refine b_G_answered_16 hX _ _ _ _ _ (i_push <| i_end ?_)
    refine b_G_answered_17 hX _ _ _ _ _ (i_iret ?_)
    exact ⟨by rw [p_answered, if_neg (by rw [hb]; decide)], f, cs, rfl, ext_r f, hG⟩
  · intro hb
    obtain ⟨c, hc, rfl⟩ := isCl_t hb
    have hcl : (nI c).toNatClampNeg = c := nI_clamp (by omega)
    refine b_G_answered_7 hX _ _ _ _ _ (i_aload rfl <| i_getf (c_cell hA (by omega) h0) rfl <| i_iload rfl <| i_ald (c_cell hA (by omega) e) ⟨rfl, hc, by omega⟩ <| i_end ?_)
    refine b_G_answered_17 hX _ _ _ _ _ (i_iret ?_)
    exact ⟨by rw [p_answered, if_pos hb, hcl, n c hc], f, cs, rfl, ext_r f, hG⟩
theorem sp_answer {x : Int32} (hE : En Z A N f) (hG : GRc Z f A N cs S) : CS l D cid m_G_answer [.ref (A 0), .int x] (hC (5 + 5 * N) A f cs) (PH Z f A N (some (.int (p_answer S x))) S) := by
  intro X hX
  have hA := hE.1
  obtain ⟨h0, h1, h2, h3, h4, h5⟩ := id hG
  obtain ⟨g, e, n⟩ := h4
  refine b_G_answer_0 hX _ _ _ _ _ (i_iload rfl <| j_rdS (sp_isClient) rfl rfl <| i_ifb ?_ ?_)
  · intro hb
    refine b_G_answer_16 hX _ _ _ _ _ (i_push <| i_end ?_)
    refine b_G_answer_17 hX _ _ _ _ _ (i_iret ?_)
    exact ⟨by rw [p_answer, if_neg (by rw [hb]; decide)], f, cs, rfl, ext_r f, hG⟩
  · intro hb
    obtain ⟨c, hc, rfl⟩ := isCl_t hb
    have hcl : (nI c).toNatClampNeg = c := nI_clamp (by omega)
    refine b_G_answer_7 hX _ _ _ _ _ (i_aload rfl <| i_getf (c_cell hA (by omega) h0) rfl <| i_iload rfl <| i_ald (c_cell hA (by omega) e) ⟨rfl, hc, by omega⟩ <| i_end ?_)
    refine b_G_answer_17 hX _ _ _ _ _ (i_iret ?_)
    exact ⟨by rw [p_answer, if_pos hb, hcl, n c hc], f, cs, rfl, ext_r f, hG⟩
theorem sp_vector {x y : Int32} (hE : En Z A N f) (hN : N = 3 ∨ N = 5) (hG : GRc Z f A N cs S) : CS l D cid m_G_vector [.ref (A 0), .int x, .int y] (hC (5 + 5 * N) A f cs) (PH Z f A N (some (.int (p_vector N S x y))) S) := by
  intro X hX
  have hA := hE.1
  obtain ⟨h0, ⟨g1, e1, n1⟩, h2⟩ := id hG
  have h30 : ¬ (isR N x = true ∧ isR N y = true) → ∀ bc bs, FR l D cid m_G_vector X 30 [some (.ref (A 0)), some (.int x), some (.int y)] [] (hC (5 + 5 * N) A f cs) bc bs := by
    intro hc bc bs
    refine b_G_vector_30 hX _ _ _ _ _ (i_push <| i_end ?_)
    refine b_G_vector_31 hX _ _ _ _ _ (i_iret ?_)
    exact ⟨by rw [p_vector, if_neg hc], f, cs, rfl, ext_r f, hG⟩
  refine b_G_vector_0 hX _ _ _ _ _ (i_aload rfl <| i_iload rfl <| j_rdV (c_cell hA (by omega) h0) (sp_isReplica hA h0) rfl rfl <| i_ifb ?_ ?_)
  · intro hb
    exact h30 (fun q => by rw [hb] at q; exact absurd q.1 (by decide)) _ _
  · intro hb
    refine b_G_vector_8 hX _ _ _ _ _ (i_aload rfl <| i_iload rfl <| j_rdV (c_cell hA (by omega) h0) (sp_isReplica hA h0) rfl rfl <| i_ifb ?_ ?_)
    · intro hb'
      exact h30 (fun q => by rw [hb'] at q; exact absurd q.2 (by decide)) _ _
    · intro hb'
      have hbb : isR N x = true ∧ isR N y = true := ⟨hb, hb'⟩
      obtain ⟨i, hi, rfl⟩ := isR_t (by omega) hb
      obtain ⟨j, hj, rfl⟩ := isR_t (by omega) hb'
      have hcl : (nI i).toNatClampNeg = i := nI_clamp (by omega)
      have hcl' : (nI j).toNatClampNeg = j := nI_clamp (by omega)
      obtain ⟨la, va, r1, r2, ⟨vz, g, hg, ng⟩, r4⟩ := hG.2.2.2.2.2 i hi
      have h5' : 5 + 5 * i < 5 + 5 * N := by omega
      refine b_G_vector_16 hX _ _ _ _ _ (i_aload rfl <| i_getf (c_cell hA (by omega) h0) rfl <| i_iload rfl <| i_aldq' (c_cell hA (by omega) e1) (⟨⟨rfl, hi, by omega⟩, congrArg va_rf (n1 i hi)⟩) <| i_getf (c_cell hA h5' r1) rfl <| i_iload rfl <| i_ald (hE.im _ _ vz hg) ⟨rfl, hj, by omega⟩ <| i_end ?_)
      refine b_G_vector_31 hX _ _ _ _ _ (i_iret ?_)
      exact ⟨by rw [p_vector, if_pos hbb, rp, hcl, hcl', ng j hj], f, cs, rfl, ext_r f, hG⟩
theorem sp_total {x : Int32} (hE : En Z A N f) (hN : N = 3 ∨ N = 5) (hG : GRc Z f A N cs S) : CS l D cid m_G_total [.ref (A 0), .int x] (hC (5 + 5 * N) A f cs) (PH Z f A N (some (.int (p_total N S x))) S) := by
  intro X hX
  have hA := hE.1
  obtain ⟨h0, ⟨g1, e1, n1⟩, h2⟩ := id hG
  refine b_G_total_0 hX _ _ _ _ _ (i_aload rfl <| i_iload rfl <| j_rdV (c_cell hA (by omega) h0) (sp_isReplica hA h0) rfl rfl <| i_ifbn ?_ ?_)
  · intro hb
    obtain ⟨i, hi, rfl⟩ := isR_t (by omega) hb
    have hcl : (nI i).toNatClampNeg = i := nI_clamp (by omega)
    obtain ⟨la, va, r1, r2, r3⟩ := hG.2.2.2.2.2 i hi
    obtain ⟨lb, hlb⟩ := r2.cell
    have h5' : 5 + 5 * i < 5 + 5 * N := by omega
    refine b_G_total_10 hX _ _ _ _ _ (i_aload rfl <| i_getf (c_cell hA (by omega) h0) rfl <| i_iload rfl <| i_aldq' (c_cell hA (by omega) e1) (⟨⟨rfl, hi, by omega⟩, congrArg va_rf (n1 i hi)⟩) <| i_astore <| i_aload rfl <| i_getf (c_cell hA h5' r1) rfl <| i_aload rfl <| i_getf (c_cell hA h5' r1) rfl <| ?_)
    refine j_callV (hE.im _ _ r2.nz hlb) (sp_firstEntries (Z := Z) hE.im r2) rfl rfl ?_
    rintro v F' ⟨rfl, b, rfl, hl⟩
    obtain ⟨bb, hbb⟩ := hl.cell
    refine (i_getf (hE.im _ _ hl.nz hbb) rfl <| i_iret ?_)
    exact ⟨by rw [p_total, if_pos hb, rp, hcl], f, cs, rfl, ext_r f, hG⟩
  · intro hb
    refine b_G_total_8 hX _ _ _ _ _ (i_push <| i_iret ?_)
    exact ⟨by rw [p_total, if_neg (by rw [hb]; decide)], f, cs, rfl, ext_r f, hG⟩
theorem sp_hasEntry {x k : Int32} (hE : En Z A N f) (hN : N = 3 ∨ N = 5) (hG : GRc Z f A N cs S) : CS l D cid m_G_hasEntry [.ref (A 0), .int x, .int k] (hC (5 + 5 * N) A f cs) (fun v F' => v = some (.int (bI (hasE N S x k))) ∧ F' = hC (5 + 5 * N) A f cs) := by
  intro X hX
  have hA := hE.1
  obtain ⟨h0, ⟨g1, e1, n1⟩, h2⟩ := id hG
  have h32 : ¬ (isR N x = true ∧ ¬ k < 0 ∧ k < nI (rG (rp S x)).length) → ∀ bc bs, FR l D cid m_G_hasEntry X 32 [some (.ref (A 0)), some (.int x), some (.int k)] [] (hC (5 + 5 * N) A f cs) bc bs := by
    intro hc bc bs
    refine b_G_hasEntry_32 hX _ _ _ _ _ (i_push <| i_end ?_)
    refine b_G_hasEntry_33 hX _ _ _ _ _ (i_zret ?_)
    exact ⟨by rw [hasE, decide_eq_false hc]; rfl, rfl⟩
  refine b_G_hasEntry_0 hX _ _ _ _ _ (i_aload rfl <| i_iload rfl <| j_rdV (c_cell hA (by omega) h0) (sp_isReplica hA h0) rfl rfl <| i_ifb ?_ ?_)
  · intro hb
    exact h32 (fun q => by rw [hb] at q; exact absurd q.1 (by decide)) _ _
  · intro hb
    refine b_G_hasEntry_8 hX _ _ _ _ _ (i_iload rfl <| i_if ?_ ?_)
    · intro h
      exact h32 (fun q => q.2.1 h) _ _
    · intro h
      obtain ⟨i, hi, rfl⟩ := isR_t (by omega) hb
      have hcl : (nI i).toNatClampNeg = i := nI_clamp (by omega)
      obtain ⟨la, va, r1, r2, r3⟩ := hG.2.2.2.2.2 i hi
      obtain ⟨lb, hlb⟩ := r2.cell
      have h5' : 5 + 5 * i < 5 + 5 * N := by omega
      refine b_G_hasEntry_12 hX _ _ _ _ _ (i_iload rfl <| i_aload rfl <| i_getf (c_cell hA (by omega) h0) rfl <| i_iload rfl <| i_aldq' (c_cell hA (by omega) e1) (⟨⟨rfl, hi, by omega⟩, congrArg va_rf (n1 i hi)⟩) <| i_getf (c_cell hA h5' r1) rfl <| i_getf (hE.im _ _ r2.nz hlb) rfl <| i_cmp ?_ ?_)
      · intro h'
        refine h32 (fun q => ?_) _ _
        rw [rp, hcl] at q
        exact Int32.not_lt.mpr h' q.2.2
      · intro h'
        refine b_G_hasEntry_28 hX _ _ _ _ _ (i_push <| i_end ?_)
        refine b_G_hasEntry_33 hX _ _ _ _ _ (i_zret ?_)
        refine ⟨?_, rfl⟩
        rw [hasE, rp, hcl, decide_eq_true ⟨hb, h, Int32.not_le.mp h'⟩]
        rfl
theorem sp_entry {x k : Int32} (hE : En Z A N f) (hN : N = 3 ∨ N = 5) (hG : GRc Z f A N cs S) : CS l D cid m_G_entry [.ref (A 0), .int x, .int k] (hC (5 + 5 * N) A f cs) (PH Z f A N (some (.int (p_entry N S x k))) S) := by
  intro X hX
  have hA := hE.1
  obtain ⟨h0, ⟨g1, e1, n1⟩, h2⟩ := id hG
  refine b_G_entry_0 hX _ _ _ _ _ (i_aload rfl <| i_iload rfl <| i_iload rfl <| j_rdV (c_cell hA (by omega) h0) (sp_hasEntry hE hN hG) rfl rfl <| i_ifb ?_ ?_)
  · intro hb
    refine b_G_entry_30 hX _ _ _ _ _ (i_push <| i_end ?_)
    refine b_G_entry_31 hX _ _ _ _ _ (i_iret ?_)
    exact ⟨by rw [p_entry, if_neg (by rw [hb]; decide)], f, cs, rfl, ext_r f, hG⟩
  · intro hb
    obtain ⟨i, hi, rfl⟩ := hasE_t (by omega) hb
    have hcl : (nI i).toNatClampNeg = i := nI_clamp (by omega)
    obtain ⟨la, va, r1, r2, r3⟩ := hG.2.2.2.2.2 i hi
    obtain ⟨lb, hlb⟩ := r2.cell
    have h5' : 5 + 5 * i < 5 + 5 * N := by omega
    refine b_G_entry_9 hX _ _ _ _ _ (i_aload rfl <| i_getf (c_cell hA (by omega) h0) rfl <| i_iload rfl <| i_aldq' (c_cell hA (by omega) e1) (⟨⟨rfl, hi, by omega⟩, congrArg va_rf (n1 i hi)⟩) <| i_getf (c_cell hA h5' r1) rfl <| i_iload rfl <| i_push <| i_bin <| ?_)
    refine j_callV (hE.im _ _ r2.nz hlb) (sp_firstEntries (Z := Z) hE.im r2) rfl rfl ?_
    rintro v F' ⟨rfl, b, rfl, hl⟩
    obtain ⟨bb, hbb⟩ := hl.cell
    refine (i_getf (hE.im _ _ hl.nz hbb) rfl <| i_end ?_)
    refine b_G_entry_31 hX _ _ _ _ _ (i_iret ?_)
    exact ⟨by rw [p_entry, if_pos hb, rp, hcl], f, cs, rfl, ext_r f, hG⟩
theorem sp_origin {x k : Int32} (hE : En Z A N f) (hN : N = 3 ∨ N = 5) (hG : GRc Z f A N cs S) : CS l D cid m_G_origin [.ref (A 0), .int x, .int k] (hC (5 + 5 * N) A f cs) (PH Z f A N (some (.int (p_origin N S x k))) S) := by
  intro X hX
  have hA := hE.1
  obtain ⟨h0, ⟨g1, e1, n1⟩, h2⟩ := id hG
  refine b_G_origin_0 hX _ _ _ _ _ (i_aload rfl <| i_iload rfl <| i_iload rfl <| j_rdV (c_cell hA (by omega) h0) (sp_hasEntry hE hN hG) rfl rfl <| i_ifbn ?_ ?_)
  · intro hb
    obtain ⟨i, hi, rfl⟩ := hasE_t (by omega) hb
    have hcl : (nI i).toNatClampNeg = i := nI_clamp (by omega)
    obtain ⟨la, va, r1, r2, r3⟩ := hG.2.2.2.2.2 i hi
    obtain ⟨lb, hlb⟩ := r2.cell
    have h5' : 5 + 5 * i < 5 + 5 * N := by omega
    refine b_G_origin_11 hX _ _ _ _ _ (i_aload rfl <| i_getf (c_cell hA (by omega) h0) rfl <| i_iload rfl <| i_aldq' (c_cell hA (by omega) e1) (⟨⟨rfl, hi, by omega⟩, congrArg va_rf (n1 i hi)⟩) <| i_getf (c_cell hA h5' r1) rfl <| i_iload rfl <| i_push <| i_bin <| ?_)
    refine j_callV (hE.im _ _ r2.nz hlb) (sp_firstEntries (Z := Z) hE.im r2) rfl rfl ?_
    rintro v F' ⟨rfl, b, rfl, hl⟩
    obtain ⟨bb, hbb⟩ := hl.cell
    refine (i_astore <| i_aload rfl <| i_getf (hE.im _ _ hl.nz hbb) rfl <| i_push <| i_bin <| i_aload rfl <| i_getf (hE.im _ _ hl.nz hbb) rfl <| i_bin <| i_iret ?_)
    exact ⟨by rw [p_origin, if_pos hb, rp, hcl], f, cs, rfl, ext_r f, hG⟩
  · intro hb
    refine b_G_origin_9 hX _ _ _ _ _ (i_push <| i_iret ?_)
    exact ⟨by rw [p_origin, if_neg (by rw [hb]; decide)], f, cs, rfl, ext_r f, hG⟩
theorem sp_message {k : Int32} (hE : En Z A N f) (hG : GRc Z f A N cs S) (hT : gT S < 2 ^ 30) : CS l D cid m_G_message [.ref (A 0), .int k] (hC (5 + 5 * N) A f cs) (PH Z f A N (some (.int (p_message S k))) S) := by
  intro X hX
  have hA := hE.1
  refine b_G_message_0 hX _ _ _ _ _ (i_aload rfl <| i_iload rfl <| ?_)
  refine j_callV (c_cell hA (by omega) hG.1) (sp_findMessage hE hG hT) rfl rfl ?_
  rintro v F' ⟨rfl, ⟨hn, rfl⟩ | ⟨kk, q, hs, hlt, rfl, hm⟩⟩
  · refine (i_astore <| i_aload rfl <| i_null_n ?_)
    refine b_G_message_10 hX _ _ _ _ _ (i_push <| i_end ?_)
    refine b_G_message_44 hX _ _ _ _ _ (i_iret ?_)
    exact ⟨by rw [p_message, hn], f, cs, rfl, ext_r f, hG⟩
  · obtain ⟨mz, mva, mla, m1, m2⟩ := hm
    have hmc := hE.im (cs := cs) _ _ mz m1
    refine (i_astore <| i_aload rfl <| i_null_r ?_)
    refine b_G_message_14 hX _ _ _ _ _ (i_aload rfl <| i_getf hmc rfl <| i_push <| i_aload rfl <| i_getf hmc rfl <| i_bin <| i_bin <| i_push <| i_aload rfl <| i_getf hmc rfl <| i_bin <| i_bin <| i_push <| i_aload rfl <| i_getf hmc rfl <| i_bin <| i_bin <| i_end ?_)
    refine b_G_message_44 hX _ _ _ _ _ (i_iret ?_)
    exact ⟨by rw [p_message, hs], f, cs, rfl, ext_r f, hG⟩
end SPM
end
section
section SPN
variable {l : Launch} {D : va_G} {cid : Nat → ClassId} {Z : Nat → Prop} {f : HF} {A : Nat → Nat} {N i : Nat} {cs : Nat → PC} {S : GS} {R : RS}
theorem sp_deliver {k : Int32} (hE : En Z A N f) (hN : N = 3 ∨ N = 5) (hG : GRc Z f A N cs S) (hT : gT S < 2 ^ 28) (hV : VI N S) (hM : VM S) : CS l D cid m_G_deliver [.ref (A 0), .int k] (hC (5 + 5 * N) A f cs) (PH Z f A N (some (.int (p_deliver N S k).1)) (p_deliver N S k).2) := by
  intro X hX
  have hA := hE.1
  refine b_G_deliver_0 hX _ _ _ _ _ (i_aload rfl <| i_iload rfl <| ?_)
  refine j_callV (c_cell hA (by omega) hG.1) (sp_findMessage hE hG (Nat.lt_trans hT (by decide))) rfl rfl ?_
  rintro v F' ⟨rfl, ⟨hn, rfl⟩ | ⟨kk, q, hs, hlt, rfl, hm⟩⟩
  · refine (i_astore <| i_aload rfl <| i_null_n ?_)
    refine b_G_deliver_10 hX _ _ _ _ _ (i_push <| i_end ?_)
    refine b_G_deliver_19 hX _ _ _ _ _ (i_iret ?_)
    have e : p_deliver N S k = (-1, S) := by rw [p_deliver, hn]
    rw [e]
    exact ⟨rfl, f, cs, rfl, ext_r f, hG⟩
  · refine (i_astore <| i_aload rfl <| i_null_r ?_)
    refine b_G_deliver_14 hX _ _ _ _ _ (i_aload rfl <| i_aload rfl <| ?_)
    refine j_callV (c_cell hA (by omega) hG.1) (sp_receive hE hN hm hG hT hV (hM kk hlt)) rfl rfl ?_
    rintro v F' ⟨rfl, f2, c2, rfl, hx2, hg2⟩
    refine (i_end ?_)
    refine b_G_deliver_19 hX _ _ _ _ _ (i_iret ?_)
    have e : p_deliver N S k = g_recv N S (gM S kk) := by rw [p_deliver, hs]
    rw [e]
    exact ⟨rfl, f2, c2, rfl, hx2, hg2⟩
theorem sp_next (hE : En Z A N f) (hN : N = 3 ∨ N = 5) (hG : GRc Z f A N cs S) (hT : gT S < 2 ^ 28) (hV : VI N S) (hM : VM S) : CS l D cid m_G_next [.ref (A 0)] (hC (5 + 5 * N) A f cs) (PH Z f A N (some (.int (p_next N S).1)) (p_next N S).2) := by
  intro X hX
  have hA := hE.1
  refine b_G_next_0 hX _ _ _ _ _ (i_aload rfl <| i_getf (c_cell hA (by omega) hG.1) rfl <| i_push <| i_bin <| i_aload rfl <| i_getf (c_cell hA (by omega) hG.1) rfl <| i_push <| i_bin <| j_rdS (sp_max) rfl rfl <| i_istore <| i_aload rfl <| i_iload rfl <| ?_)
  refine j_callV (c_cell hA (by omega) hG.1) (sp_findMessage (k := nxk S) hE hG (Nat.lt_trans hT (by decide))) rfl rfl ?_
  rintro v F' ⟨rfl, ⟨hn, rfl⟩ | ⟨kk, q, hs, hlt, rfl, hm⟩⟩
  · refine (i_astore <| i_aload rfl <| i_null_n ?_)
    refine b_G_next_27 hX _ _ _ _ _ (i_push <| i_iret ?_)
    have e : p_next N S = (-1, S) := by rw [p_next, hn]
    rw [e]
    exact ⟨rfl, f, cs, rfl, ext_r f, hG⟩
  · refine (i_astore <| i_aload rfl <| i_null_r ?_)
    obtain ⟨h0, ⟨g1, e1, n1⟩, ⟨g2, e2, n2⟩, h3, h4, h5⟩ := id hG
    have hG1 : GRc Z f A N (va_up cs 0 (.inl (3, gobj A N (g_lat S (nxk S))))) (g_lat S (nxk S)) :=
      ⟨va_s _ _ _, ⟨g1, (va_n (by decide)).trans e1, n1⟩, ⟨g2, (va_n (by decide)).trans e2, n2⟩, h3.fm (va_n (by decide)), h4.fm (va_n (by decide)), fun j hj => (h5 j hj).fm (ext_r f) (fun k hk => va_n (by simp only [W5] at hk; omega))⟩
    refine b_G_next_29 hX _ _ _ _ _ (i_aload rfl <| i_iload rfl <| c_putI hA (by omega) h0 rfl <| i_aload rfl <| i_aload rfl <| ?_)
    refine j_callV (c_cell hA (by omega) hG1.1) (sp_receive (S := g_lat S (nxk S)) hE hN hm hG1 hT hV (hM kk hlt)) rfl rfl ?_
    rintro v F' ⟨rfl, f2, c2, rfl, hx2, hg2⟩
    refine (i_iret ?_)
    have e : p_next N S = g_recv N (g_lat S (nxk S)) (gM S kk) := by rw [p_next, hs]
    rw [e]
    exact ⟨rfl, f2, c2, rfl, hx2, hg2⟩
theorem sp_remind {x : Int32} (hE : En Z A N f) (hN : N = 3 ∨ N = 5) (hG : GRc Z f A N cs S) (hT : gT S < 2 ^ 29) : CS l D cid m_G_remind [.ref (A 0), .int x] (hC (5 + 5 * N) A f cs) (PH Z f A N (some (.int (p_remind N S x).1)) (p_remind N S x).2) := by
  intro X hX
  have hA := hE.1
  obtain ⟨h0, ⟨g1, e1, n1⟩, h2⟩ := id hG
  have h21 : ¬ (isR N x = true ∧ leads N (rp S x) x.toNatClampNeg) → ∀ bc bs, FR l D cid m_G_remind X 21 [some (.ref (A 0)), some (.int x)] [] (hC (5 + 5 * N) A f cs) bc bs := by
    intro hc bc bs
    refine b_G_remind_21 hX _ _ _ _ _ (i_push <| i_zret ?_)
    have e : p_remind N S x = (0, S) := by rw [p_remind, if_neg hc]
    rw [e]
    exact ⟨rfl, f, cs, rfl, ext_r f, hG⟩
  refine b_G_remind_0 hX _ _ _ _ _ (i_aload rfl <| i_iload rfl <| j_rdV (c_cell hA (by omega) h0) (sp_isReplica hA h0) rfl rfl <| i_ifb ?_ ?_)
  · intro hb
    exact h21 (fun q => by rw [hb] at q; exact absurd q.1 (by decide)) _ _
  · intro hb
    obtain ⟨i, hi, rfl⟩ := isR_t (by omega) hb
    have hcl : (nI i).toNatClampNeg = i := nI_clamp (by omega)
    obtain ⟨la, va, r1, r2⟩ := hG.2.2.2.2.2 i hi
    have h5' : 5 + 5 * i < 5 + 5 * N := by omega
    refine b_G_remind_8 hX _ _ _ _ _ (i_aload rfl <| i_aload rfl <| i_getf (c_cell hA (by omega) h0) rfl <| i_iload rfl <| i_aldq' (c_cell hA (by omega) e1) (⟨⟨rfl, hi, by omega⟩, congrArg va_rf (n1 i hi)⟩) <| j_rdV (c_cell hA (by omega) h0) (sp_leads hA hN (by omega) h0 r1) rfl rfl <| i_ifbn ?_ ?_)
    · intro hl
      refine b_G_remind_23 hX _ _ _ _ _ (i_aload rfl <| i_aload rfl <| i_getf (c_cell hA (by omega) h0) rfl <| i_iload rfl <| i_aldq' (c_cell hA (by omega) e1) (⟨⟨rfl, hi, by omega⟩, congrArg va_rf (n1 i hi)⟩) <| i_push <| ?_)
      refine j_callV (c_cell hA (by omega) h0) (sp_sendToAll (i := i) (kind := 1) hE hN hi hG hT) rfl rfl ?_
      rintro v F' ⟨rfl, f2, c2, rfl, hx2, hg2⟩
      refine (i_push <| i_zret ?_)
      have e : p_remind N S (nI i) = (1, g_all S i 1 N) := by
        rw [p_remind, rp, hcl, if_pos ⟨hb, of_decide_eq_true hl⟩]
      rw [e]
      exact ⟨rfl, f2, c2, rfl, hx2, hg2⟩
    · intro hl
      refine h21 (fun q => ?_) _ _
      rw [rp, hcl] at q
      exact of_decide_eq_false hl q.2
theorem sp_suspect {x : Int32} (hE : En Z A N f) (hN : N = 3 ∨ N = 5) (hG : GRc Z f A N cs S) (hT : gT S < 2 ^ 29) : CS l D cid m_G_suspect [.ref (A 0), .int x] (hC (5 + 5 * N) A f cs) (PH Z f A N (some (.int (p_suspect N S x).1)) (p_suspect N S x).2) := by
  intro X hX
  have hA := hE.1
  obtain ⟨h0, ⟨g1, e1, n1⟩, h2⟩ := id hG
  refine b_G_suspect_0 hX _ _ _ _ _ (i_aload rfl <| i_iload rfl <| j_rdV (c_cell hA (by omega) h0) (sp_isReplica hA h0) rfl rfl <| i_ifbn ?_ ?_)
  · intro hb
    obtain ⟨i, hi, rfl⟩ := isR_t (by omega) hb
    have hcl : (nI i).toNatClampNeg = i := nI_clamp (by omega)
    obtain ⟨la, va, r1, r2⟩ := hG.2.2.2.2.2 i hi
    have h5' : 5 + 5 * i < 5 + 5 * N := by omega
    have h34 : (rS (gR S i) = 0 ∨ rS (gR S i) = 1) → FR l D cid m_G_suspect X 34 [some (.ref (A 0)), some (.int (nI i)), some (.ref (A (5 + 5 * i)))] [] (hC (5 + 5 * N) A f cs) m_G_suspect.2.2.2.2.cells m_G_suspect.2.2.2.2.slots := by
      intro hs
      refine b_G_suspect_34 hX _ _ _ _ _ (i_aload rfl <| i_aload rfl <| i_aload rfl <| i_getf (c_cell hA h5' r1) rfl <| i_push <| i_bin <| ?_)
      refine j_callV (c_cell hA (by omega) h0) (sp_startChanging (i := i) (v := rV (gR S i) + 1) hE hN hi hG hT) rfl rfl ?_
      rintro v F' ⟨rfl, f2, c2, rfl, hx2, hg2⟩
      refine (i_push <| i_zret ?_)
      have e : p_suspect N S (nI i) = (1, g_start N S i (rV (gR S i) + 1)) := by
        rw [p_suspect, rp, hcl, if_pos ⟨hb, hs⟩]
      rw [e]
      exact ⟨rfl, f2, c2, rfl, hx2, hg2⟩
    refine b_G_suspect_10 hX _ _ _ _ _ (i_aload rfl <| i_getf (c_cell hA (by omega) h0) rfl <| i_iload rfl <| i_aldq' (c_cell hA (by omega) e1) (⟨⟨rfl, hi, by omega⟩, congrArg va_rf (n1 i hi)⟩) <| i_astore <| i_aload rfl <| i_getf (c_cell hA h5' r1) rfl <| i_if ?_ ?_)
    · intro hs
      exact h34 (Or.inl hs)
    · intro hs
      refine b_G_suspect_24 hX _ _ _ _ _ (i_aload rfl <| i_getf (c_cell hA h5' r1) rfl <| i_push <| i_cmp ?_ ?_)
      · intro hs'
        exact h34 (Or.inr hs')
      · intro hs'
        refine b_G_suspect_32 hX _ _ _ _ _ (i_push <| i_zret ?_)
        have e : p_suspect N S (nI i) = (0, S) := by
          rw [p_suspect, rp, hcl, if_neg (fun q => q.2.elim hs hs')]
        rw [e]
        exact ⟨rfl, f, cs, rfl, ext_r f, hG⟩
  · intro hb
    refine b_G_suspect_8 hX _ _ _ _ _ (i_push <| i_zret ?_)
    have e : p_suspect N S x = (0, S) := by
      rw [p_suspect, if_neg (fun q => by rw [hb] at q; exact absurd q.1 (by decide))]
    rw [e]
    exact ⟨rfl, f, cs, rfl, ext_r f, hG⟩
theorem sp_isLost {F : HF} {p la va : Nat} (hp : F p = some (.inl (2, robj A i la va R))) : CS l D cid m_G_isLost [.ref p] F (fun v f' => v = some (.int (bI (decide (rS R = 3 ∨ rS R = 2)))) ∧ f' = F) := by
  intro X hX
  have fin : ∀ (b : Bool) (bc bs : Nat), b = decide (rS R = 3 ∨ rS R = 2) → FR l D cid m_G_isLost X 21 [some (.ref p)] [.int (bI b)] F bc bs := by
    intro b bc bs hb
    refine b_G_isLost_21 hX _ _ _ _ _ (i_zret ?_)
    exact ⟨by rw [hb], rfl⟩
  refine b_G_isLost_0 hX _ _ _ _ _ (i_aload rfl <| i_getf hp rfl <| i_push <| i_cmp ?_ ?_)
  · intro h
    refine b_G_isLost_16 hX _ _ _ _ _ (i_push <| i_end ?_)
    exact fin true _ _ (decide_eq_true (Or.inl h)).symm
  · intro h
    refine b_G_isLost_8 hX _ _ _ _ _ (i_aload rfl <| i_getf hp rfl <| i_push <| i_cmp ?_ ?_)
    · intro h'
      refine b_G_isLost_20 hX _ _ _ _ _ (i_push <| i_end ?_)
      exact fin false _ _ (decide_eq_false (fun q => q.elim h h')).symm
    · intro h'
      refine b_G_isLost_16 hX _ _ _ _ _ (i_push <| i_end ?_)
      exact fin true _ _ (decide_eq_true (Or.inr (Classical.not_not.mp h'))).symm
theorem sp_othersLost (hE : En Z A N f) (hN : N = 3 ∨ N = 5) (hi : i < N) (hG : GRc Z f A N cs S) : CS l D cid m_G_othersLost [.ref (A 0), .ref (A (5 + 5 * i))] (hC (5 + 5 * N) A f cs) (fun v f' => v = some (.int (olo S i N)) ∧ f' = hC (5 + 5 * N) A f cs) := by
  intro X hX
  have hA := hE.1
  have h5' : 5 + 5 * i < 5 + 5 * N := by omega
  obtain ⟨h0, ⟨g1, e1, n1⟩, h2⟩ := id hG
  obtain ⟨la, va, r1, r2⟩ := hG.2.2.2.2.2 i hi
  have loop : ∀ t, t ≤ N → ∀ bc bs, FR l D cid m_G_othersLost X 4 [some (.ref (A 0)), some (.ref (A (5 + 5 * i))), some (.int (olo S i t)), some (.int (nI t))] [] (hC (5 + 5 * N) A f cs) bc bs := by
    refine up_to ?_ ?_
    · intro bc bs
      refine b_G_othersLost_4 hX _ _ _ _ _ (i_iload rfl <| i_aload rfl <| i_getf (c_cell hA (by omega) h0) rfl <| i_cmp_t (Int32.le_refl _) ?_)
      refine b_G_othersLost_41 hX _ _ _ _ _ (i_iload rfl <| i_iret ?_)
      exact ⟨rfl, rfl⟩
    · intro t ht ih bc bs
      simp only [nI_succ] at ih
      have h35 : ∀ x, x = olo S i (t + 1) → ∀ bc bs, FR l D cid m_G_othersLost X 35 [some (.ref (A 0)), some (.ref (A (5 + 5 * i))), some (.int x), some (.int (nI t))] [] (hC (5 + 5 * N) A f cs) bc bs := by
        intro x hx bc bs
        subst hx
        refine b_G_othersLost_35 hX _ _ _ _ _ (i_iinc rfl <| i_end ?_)
        exact ih _ _
      obtain ⟨la2, va2, p1, p2⟩ := hG.2.2.2.2.2 t ht
      refine b_G_othersLost_4 hX _ _ _ _ _ (i_iload rfl <| i_aload rfl <| i_getf (c_cell hA (by omega) h0) rfl <| i_cmp_f (nI_ge ht (by omega)) ?_)
      refine b_G_othersLost_12 hX _ _ _ _ _ (i_iload rfl <| i_aload rfl <| i_getf (c_cell hA h5' r1) rfl <| i_cmp ?_ ?_)
      · intro he
        have he' : t = i := (nI_eq (by omega) (by omega)).mp he
        refine h35 _ ?_ _ _
        rw [olo, if_neg (fun q => q.1 he')]
      · intro he
        have he' : ¬ t = i := fun q => he (congrArg nI q)
        refine b_G_othersLost_20 hX _ _ _ _ _ (i_aload rfl <| i_getf (c_cell hA (by omega) h0) rfl <| i_iload rfl <| i_aldq' (c_cell hA (by omega) e1) (⟨⟨rfl, ht, by omega⟩, congrArg va_rf (n1 t ht)⟩) <| j_rdS (sp_isLost (c_cell hA (by omega) p1)) rfl rfl <| i_ifb ?_ ?_)
        · intro hb
          refine h35 _ ?_ _ _
          rw [olo, if_neg (fun q => of_decide_eq_false hb q.2)]
        · intro hb
          refine b_G_othersLost_32 hX _ _ _ _ _ (i_iinc rfl <| i_end ?_)
          refine h35 _ ?_ _ _
          rw [olo, if_pos ⟨he', of_decide_eq_true hb⟩]
  refine b_G_othersLost_0 hX _ _ _ _ _ (i_push <| i_istore <| i_push <| i_istore <| i_end ?_)
  exact loop 0 (Nat.zero_le _) _ _
theorem sp_crash {x : Int32} (hE : En Z A N f) (hN : N = 3 ∨ N = 5) (hG : GRc Z f A N cs S) : CS l D cid m_G_crash [.ref (A 0), .int x] (hC (5 + 5 * N) A f cs) (PH Z f A N (some (.int (p_crash N S x).1)) (p_crash N S x).2) := by
  intro X hX
  have hA := hE.1
  obtain ⟨h0, ⟨g1, e1, n1⟩, h2⟩ := id hG
  refine b_G_crash_0 hX _ _ _ _ _ (i_aload rfl <| i_iload rfl <| j_rdV (c_cell hA (by omega) h0) (sp_isReplica hA h0) rfl rfl <| i_ifbn ?_ ?_)
  · intro hb
    obtain ⟨i, hi, rfl⟩ := isR_t (by omega) hb
    have hcl : (nI i).toNatClampNeg = i := nI_clamp (by omega)
    have hR := hG.2.2.2.2.2 i hi
    obtain ⟨la, va, r1, r2⟩ := id hR
    have h5' : 5 + 5 * i < 5 + 5 * N := by omega
    have h37 : ¬ (¬ rS (gR S i) = 3 ∧ olo S i N < nI (N / 2)) → ∀ bc bs, FR l D cid m_G_crash X 37 [some (.ref (A 0)), some (.int (nI i)), some (.ref (A (5 + 5 * i)))] [] (hC (5 + 5 * N) A f cs) bc bs := by
      intro hc bc bs
      refine b_G_crash_37 hX _ _ _ _ _ (i_push <| i_zret ?_)
      have e : p_crash N S (nI i) = (0, S) := by
        rw [p_crash, rp, hcl, if_neg (fun q => hc q.2)]
      rw [e]
      exact ⟨rfl, f, cs, rfl, ext_r f, hG⟩
    refine b_G_crash_10 hX _ _ _ _ _ (i_aload rfl <| i_getf (c_cell hA (by omega) h0) rfl <| i_iload rfl <| i_aldq' (c_cell hA (by omega) e1) (⟨⟨rfl, hi, by omega⟩, congrArg va_rf (n1 i hi)⟩) <| i_astore <| i_aload rfl <| i_getf (c_cell hA h5' r1) rfl <| i_push <| i_cmp ?_ ?_)
    · intro h3
      exact h37 (fun q => q.1 h3) _ _
    · intro h3
      refine b_G_crash_25 hX _ _ _ _ _ (i_aload rfl <| i_aload rfl <| j_rdV (c_cell hA (by omega) h0) (sp_othersLost hE hN hi hG) rfl rfl <| i_aload rfl <| i_getf (c_cell hA (by omega) h0) rfl <| i_cmp ?_ ?_)
      · intro hl
        refine b_G_crash_39 hX _ _ _ _ _ (i_aload rfl <| ?_)
        refine j_callV (c_cell hA h5' r1) (sp_forgetEverything hE (by omega) (by omega) hR) rfl rfl ?_
        rintro v F' ⟨rfl, f1, c1, la1, va1, rfl, x1, s1, e5, hR1, hq1, hq2, hq3⟩
        obtain ⟨la2, va2, p1, p2, p3, p4, p5, p6, p7, p8, p9⟩ := id hR1
        refine (i_aload rfl <| i_push <| c_putI hA h5' p1 rfl <| i_push <| i_zret ?_)
        have hR2 := RepC.set (R' := (3, (r_fresh (gR S i)).2)) (ext_r f1) hR1 (by omega) p2 p3 rfl rfl rfl rfl p8
        have e : p_crash N S (nI i) = (1, g_rep S i (3, (r_fresh (gR S i)).2)) := by
          rw [p_crash, rp, hcl, if_pos ⟨hb, h3, hl⟩]
        rw [e]
        exact ⟨rfl, f1, _, rfl, x1, hG.rep (by omega) hi x1 (fun k hk => (va_n (fun e => hk (Or.inl e))).trans (s1 k hk)) hR2⟩
      · intro hl
        exact h37 (fun q => hl q.2) _ _
  · intro hb
    refine b_G_crash_8 hX _ _ _ _ _ (i_push <| i_zret ?_)
    have e : p_crash N S x = (0, S) := by
      rw [p_crash, if_neg (fun q => by rw [hb] at q; exact absurd q.1 (by decide))]
    rw [e]
    exact ⟨rfl, f, cs, rfl, ext_r f, hG⟩
end SPN
end
section
section SPO
variable {l : Launch} {D : va_G} {cid : Nat → ClassId} {Z : Nat → Prop} {f : HF} {A : Nat → Nat} {N i : Nat} {cs : Nat → PC} {S : GS} {R : RS}
theorem hC_im {K : Nat} {q : Nat} (h : ¬ isA K A q) (c : PC) : hup (hC K A f cs) q c = hC K A (hup f q c) cs := by
  funext a
  by_cases e : a = q
  · subst e
    rw [hup_s, hC_no h, hup_s]
  · rw [hup_n e]
    by_cases ha : isA K A a
    · simp only [hC, dif_pos ha]
    · rw [hC_no ha, hC_no ha, hup_n e]
theorem kep_no {f' : HF} {cs' : Nat → PC} {k : Nat} (h : KepC Z f cs N k noK) (hk : cs' k = cs k) : KepC Z f' cs' N k noK := by
  obtain ⟨g, h1, h2⟩ := h
  refine ⟨g, hk.trans h1, fun t ht => ?_⟩
  have h3 := h2 t ht
  cases hg : g t with
  | none => exact trivial
  | some q => rw [hg] at h3; exact h3.elim
theorem sp_recover {x n : Int32} (hE : En Z A N f) (hN : N = 3 ∨ N = 5) (hG : GRc Z f A N cs S) (hT : gT S < 2 ^ 29) : CS l D cid m_G_recover [.ref (A 0), .int x, .int n] (hC (5 + 5 * N) A f cs) (PH Z f A N (some (.int (p_recover N S x n).1)) (p_recover N S x n).2) := by
  intro X hX
  have hA := hE.1
  obtain ⟨h0, ⟨g1, e1, n1⟩, h2⟩ := id hG
  refine b_G_recover_0 hX _ _ _ _ _ (i_aload rfl <| i_iload rfl <| j_rdV (c_cell hA (by omega) h0) (sp_isReplica hA h0) rfl rfl <| i_ifbn ?_ ?_)
  · intro hb
    obtain ⟨i, hi, rfl⟩ := isR_t (by omega) hb
    have hcl : (nI i).toNatClampNeg = i := nI_clamp (by omega)
    have hR := hG.2.2.2.2.2 i hi
    obtain ⟨la, va, r1, r2, r3, r4, r5, r6, r7, r8, r9⟩ := id hR
    have h5' : 5 + 5 * i < 5 + 5 * N := by omega
    have h32 : ¬ ((rS (gR S i) = 3 ∨ rS (gR S i) = 2) ∧ rN (gR S i) < n) → ∀ bc bs, FR l D cid m_G_recover X 32 [some (.ref (A 0)), some (.int (nI i)), some (.int n), some (.ref (A (5 + 5 * i)))] [] (hC (5 + 5 * N) A f cs) bc bs := by
      intro hc bc bs
      refine b_G_recover_32 hX _ _ _ _ _ (i_push <| i_zret ?_)
      have e : p_recover N S (nI i) n = (0, S) := by
        rw [p_recover, rp, hcl, if_neg (fun q => hc q.2)]
      rw [e]
      exact ⟨rfl, f, cs, rfl, ext_r f, hG⟩
    refine b_G_recover_10 hX _ _ _ _ _ (i_aload rfl <| i_getf (c_cell hA (by omega) h0) rfl <| i_iload rfl <| i_aldq' (c_cell hA (by omega) e1) (⟨⟨rfl, hi, by omega⟩, congrArg va_rf (n1 i hi)⟩) <| i_astore <| i_aload rfl <| j_rdS (sp_isLost (c_cell hA h5' r1)) rfl rfl <| i_ifb ?_ ?_)
    · intro hl
      exact h32 (fun q => of_decide_eq_false hl q.1) _ _
    · intro hl
      refine b_G_recover_24 hX _ _ _ _ _ (i_iload rfl <| i_aload rfl <| i_getf (c_cell hA h5' r1) rfl <| i_cmp ?_ ?_)
      · intro hn
        refine b_G_recover_34 hX _ _ _ _ _ (i_aload rfl <| i_iload rfl <| c_putI hA h5' r1 rfl <| i_aload rfl <| ?_)
        have hR0 := RepC.set (R' := (rS (gR S i), rV (gR S i), rL (gR S i), rG (gR S i), rC (gR S i), rX (gR S i), rA (gR S i), rP (gR S i), rO (gR S i), rE (gR S i), rR (gR S i), n)) (ext_r f) hR (by omega) r2 r3 rfl rfl rfl rfl r8
        refine j_callV (c_cell hA h5' (va_s _ _ _)) (sp_forgetEverything hE (by omega) (by omega) hR0) rfl rfl ?_
        rintro v F' ⟨rfl, f1, c1, la1, va1, rfl, x1, s1, e5, hR1, ⟨gv, hv1, hv2⟩, hq2, hq3⟩
        obtain ⟨la2, va2, p1, p2, ⟨vz, gv', p3, p3'⟩, p4, p5, p6, p7, p8, p9⟩ := id hR1
        have hh := p1.symm.trans e5
        simp only [Sum.inl.injEq, Prod.mk.injEq, List.cons.injEq, Value.ref.injEq, true_and, and_true] at hh
        obtain ⟨rfl, rfl⟩ := hh
        have hE1 := hE.ext x1
        have hvA : ¬ isA (5 + 5 * N) A va2 := fun q => vz (hE.2.1 _ q)
        refine (i_aload rfl <| i_push <| c_putI hA h5' p1 rfl <| i_aload rfl <| i_getf (c_cell hA h5' (va_s _ _ _)) rfl <| i_aload rfl <| i_getf (c_cell hA h5' (va_s _ _ _)) rfl <| i_iload rfl <| i_ast (hE1.im _ _ vz p3) ⟨rfl, hi, by omega⟩ <| i_aload rfl <| i_aload rfl <| i_push <| ?_)
        rw [hC_im hvA]
        have hx2 : Ext f (hup f1 va2 (.inr (.inl (0, N, upd gv' i n)))) := fun a c h => (hup_n (ne_of h hq2)).trans (x1 a c h)
        have hR2 : RepC Z (hup f1 va2 (.inr (.inl (0, N, upd gv' i n)))) A N (va_up c1 (5 + 5 * i) (.inl (2, robj A i la2 va2 (r_recov (gR S i) i n)))) i (r_recov (gR S i) i n) := by
          refine ⟨la2, va2, va_s _ _ _, ⟨p2.1, (hup_n hq3).trans p2.2⟩, ⟨vz, _, hup_s _ _ _, fun t ht => ?_⟩, p4.fm (va_n (by omega)), kep_no p5 (va_n (by omega)), kep_no p6 (va_n (by omega)), kep_no p7 (va_n (by omega)), b24_0, fun _ _ => b24_0⟩
          show upd gv' i n t = va_up (fun _ => 0) i n t
          by_cases e : t = i
          · rw [e, upd_s, va_s]
          · rw [upd_n e, va_n e]
            exact p3' t ht
        have hG2 := hG.rep (by omega) hi hx2 (fun k hk => (va_n (fun e => hk (Or.inl e))).trans ((s1 k hk).trans (va_n (fun e => hk (Or.inl e))))) hR2
        refine j_callV (c_cell hA (by omega) hG2.1) (sp_sendToAll (i := i) (kind := 7) (hE.ext hx2) hN hi hG2 hT) rfl rfl ?_
        rintro v F' ⟨rfl, f3, c3, rfl, x3, hg3⟩
        refine (i_push <| i_zret ?_)
        have e : p_recover N S (nI i) n = (1, g_all (g_rep S i (r_recov (gR S i) i n)) i 7 N) := by
          rw [p_recover, rp, hcl, if_pos ⟨hb, of_decide_eq_true hl, hn⟩]
        rw [e]
        exact ⟨rfl, f3, c3, rfl, hx2.trans x3, hg3⟩
      · intro hn
        exact h32 (fun q => hn q.2) _ _
  · intro hb
    refine b_G_recover_8 hX _ _ _ _ _ (i_push <| i_zret ?_)
    have e : p_recover N S x n = (0, S) := by
      rw [p_recover, if_neg (fun q => by rw [hb] at q; exact absurd q.1 (by decide))]
    rw [e]
    exact ⟨rfl, f, cs, rfl, ext_r f, hG⟩
theorem sp_repeatAnswer {la va lb : Nat} {es : List Ent} (hE : En Z A N f) (hi : i < N) (hN : N ≤ 5) (hG : GRc Z f A N cs S) (hl : LogR Z f es lb) : CS l D cid m_G_repeatAnswer [.ref (A 0), .ref (A (5 + 5 * i)), .ref lb] (hC (5 + 5 * N) A f cs) (PH Z f A N (some (.int (if nI es.length ≤ rC (gR S i) then 1 else 2))) (if nI es.length ≤ rC (gR S i) then g_ans S es else S)) := by
  intro X hX
  have hA := hE.1
  obtain ⟨la, va, r1, r2⟩ := hG.2.2.2.2.2 i hi
  have h5' : 5 + 5 * i < 5 + 5 * N := by omega
  obtain ⟨b, hb⟩ := hl.cell
  have hlc := hE.im (cs := cs) _ _ hl.nz hb
  refine b_G_repeatAnswer_0 hX _ _ _ _ _ (i_aload rfl <| i_getf hlc rfl <| i_aload rfl <| i_getf (c_cell hA h5' r1) rfl <| i_cmp ?_ ?_)
  · intro h
    refine b_G_repeatAnswer_13 hX _ _ _ _ _ (i_aload rfl <| i_aload rfl <| ?_)
    refine j_callV (c_cell hA (by omega) hG.1) (sp_answerClient hE hG hl) rfl rfl ?_
    rintro v F' ⟨rfl, c2, rfl, s2, hg2⟩
    refine (i_push <| i_iret ?_)
    rw [if_pos h, if_pos h]
    exact ⟨rfl, f, c2, rfl, ext_r f, hg2⟩
  · intro h
    refine b_G_repeatAnswer_11 hX _ _ _ _ _ (i_push <| i_iret ?_)
    rw [if_neg h, if_neg h]
    exact ⟨rfl, f, cs, rfl, ext_r f, hG⟩
theorem sp_request {x c n v : Int32} (hE : En Z A N f) (hN : N = 3 ∨ N = 5) (hG : GRc Z f A N cs S) (hT : gT S < 2 ^ 29) : CS l D cid m_G_request [.ref (A 0), .int x, .int c, .int n, .int v] (hC (5 + 5 * N) A f cs) (PH Z f A N (some (.int (p_request N S x c n v).1)) (p_request N S x c n v).2) := by
  intro X hX
  have hA := hE.1
  obtain ⟨h0, ⟨g1, e1, n1⟩, h2⟩ := id hG
  have h20 : ¬ (isR N x = true ∧ isCl c = true ∧ 1 ≤ n) → ∀ x5 x6 bc bs, FR l D cid m_G_request X 20 [some (.ref (A 0)), some (.int x), some (.int c), some (.int n), some (.int v), x5, x6] [] (hC (5 + 5 * N) A f cs) bc bs := by
    intro hc x5 x6 bc bs
    refine b_G_request_20 hX _ _ _ _ _ (i_push <| i_iret ?_)
    have e : p_request N S x c n v = (-1, S) := by rw [p_request, if_pos hc]
    rw [e]
    exact ⟨rfl, f, cs, rfl, ext_r f, hG⟩
  refine b_G_request_0 hX _ _ _ _ _ (i_aload rfl <| i_iload rfl <| j_rdV (c_cell hA (by omega) h0) (sp_isReplica hA h0) rfl rfl <| i_ifb ?_ ?_)
  · intro hb
    exact h20 (fun q => by rw [hb] at q; exact absurd q.1 (by decide)) _ _ _ _
  · intro hb
    refine b_G_request_8 hX _ _ _ _ _ (i_iload rfl <| j_rdS (sp_isClient) rfl rfl <| i_ifb ?_ ?_)
    · intro hb'
      exact h20 (fun q => by rw [hb'] at q; exact absurd q.2.1 (by decide)) _ _ _ _
    · intro hb'
      refine b_G_request_15 hX _ _ _ _ _ (i_iload rfl <| i_push <| i_cmp ?_ ?_)
      · intro hn
        have hc : ¬ ¬ (isR N x = true ∧ isCl c = true ∧ 1 ≤ n) := fun q => q ⟨hb, hb', hn⟩
        obtain ⟨i, hi, rfl⟩ := isR_t (by omega) hb
        obtain ⟨cc, hcc, rfl⟩ := isCl_t hb'
        have hcl : (nI i).toNatClampNeg = i := nI_clamp (by omega)
        have hR := hG.2.2.2.2.2 i hi
        obtain ⟨la, va, r1, r2, r3, r4, r5, r6, r7, r8, r9⟩ := id hR
        have h5' : 5 + 5 * i < 5 + 5 * N := by omega
        obtain ⟨lb, hlb⟩ := r2.cell
        have hlc := hE.im (cs := cs) _ _ r2.nz hlb
        have hlen := r2.len
        refine b_G_request_22 hX _ _ _ _ _ (i_aload rfl <| i_getf (c_cell hA (by omega) h0) rfl <| i_iload rfl <| i_aldq' (c_cell hA (by omega) e1) (⟨⟨rfl, hi, by omega⟩, congrArg va_rf (n1 i hi)⟩) <| i_astore <| i_aload rfl <| i_aload rfl <| j_rdV (c_cell hA (by omega) h0) (sp_leads hA hN (by omega) h0 r1) rfl rfl <| i_ifbn ?_ ?_)
        · intro hl
          have hl' : ¬ ¬ leads N (gR S i) i := fun q => q (of_decide_eq_true hl)
          refine b_G_request_42 hX _ _ _ _ _ (i_aload rfl <| i_getf (c_cell hA h5' r1) rfl <| i_iload rfl <| j_rdV hlc (sp_greatestNumber (Z := Z) hE.im r2) rfl rfl <| i_iload rfl <| i_cmp ?_ ?_)
          · intro hg
            have hg' : ¬ n < gno (rG (gR S i)) (nI cc) 0 := Int32.not_lt.mpr hg
            refine b_G_request_58 hX _ _ _ _ _ (i_aload rfl <| i_getf (c_cell hA h5' r1) rfl <| i_iload rfl <| i_iload rfl <| ?_)
            refine j_callV hlc (sp_find (Z := Z) hE.im r2) rfl rfl ?_
            rintro w F' ⟨rfl, ⟨hnone, rfl⟩ | ⟨es, b, hsome, rfl, hle⟩⟩
            · refine (i_astore <| i_aload rfl <| i_null_n ?_)
              refine b_G_request_84 hX _ _ _ _ _ (i_aload rfl <| i_getf (c_cell hA h5' r1) rfl <| i_getf hlc rfl <| i_push <| i_cmp ?_ ?_)
              · intro hsz
                have hsz' : (rG (gR S i)).length < 24 := by
                  rcases Nat.lt_or_ge (rG (gR S i)).length 24 with h9 | h9
                  · exact h9
                  · exact absurd hsz (nI_nlt h9 (by omega))
                refine b_G_request_100 hX _ _ _ _ _ (i_aload rfl <| i_new ⟨by decide, by decide⟩ fun q1 hq1 => i_dup <| i_aload rfl <| ?_)
                have hqA := (hC_none hq1).1
                obtain ⟨qz, qn⟩ := hE.no hq1
                have nr : A (5 + 5 * i) ≠ q1 := ne_of (c_cell hA h5' r1) hq1
                refine (i_getf ((hup_n nr).trans (c_cell hA h5' r1)) rfl <| i_iload rfl <| i_iload rfl <| i_iload rfl <| ?_)
                refine j_upI (sp_L_init2 (Z := Z) (es := rG (gR S i)) (hup_s _ _ _) (ne_of hlc hq1) (r2.fm (fun a c hz h => (hup_n (ne_of (hE.im (cs := cs) _ _ hz h) hq1)).trans (hE.im _ _ hz h)))) rfl rfl ?_
                rw [hup_hup, hC_new hq1]
                have hx1 := Ext.new (c := .inl (0, [.ref la, .int (nI ((rG (gR S i)).length + 1)), .int (nI cc), .int n, .int v, .int (tot ((nI cc, n, v) :: rG (gR S i)))])) qn
                have hl2 : LogR Z (hup f q1 (.inl (0, [.ref la, .int (nI ((rG (gR S i)).length + 1)), .int (nI cc), .int n, .int v, .int (tot ((nI cc, n, v) :: rG (gR S i)))]))) ((nI cc, n, v) :: rG (gR S i)) q1 := ⟨qz, hsz', ⟨cc, hcc, rfl⟩, la, hup_s _ _ _, r2.fm (fun a c _ h => hx1 a c h)⟩
                have hR2 := RepC.set (R' := r_add (gR S i) (nI cc, n, v)) hx1 hR (by omega) hl2 (r3.fm (fun a c _ h => hx1 a c h)) rfl rfl rfl rfl r8
                have hG2 := hG.rep (by omega) hi hx1 (fun k hk => va_n (fun e => hk (Or.inl e))) hR2
                refine (c_putR hA h5' r1 rfl <| i_aload rfl <| i_aload rfl <| i_push <| ?_)
                refine j_callV (c_cell hA (by omega) hG2.1) (sp_sendToAll (i := i) (kind := 1) (hE.ext hx1) hN hi hG2 hT) rfl rfl ?_
                rintro w F' ⟨rfl, f3, c3, rfl, x3, hg3⟩
                refine (i_push <| i_iret ?_)
                have e : p_request N S (nI i) (nI cc) n v = (0, g_all (g_rep S i (r_add (gR S i) (nI cc, n, v))) i 1 N) := by
                  rw [p_request, if_neg hc, rp, hcl, if_neg hl', if_neg hg', hnone]
                  exact if_pos hsz
                rw [e]
                exact ⟨rfl, f3, c3, rfl, hx1.trans x3, hg3⟩
              · intro hsz
                refine b_G_request_97 hX _ _ _ _ _ (i_push <| i_iret ?_)
                have e : p_request N S (nI i) (nI cc) n v = (-4, S) := by
                  rw [p_request, if_neg hc, rp, hcl, if_neg hl', if_neg hg', hnone]
                  exact if_neg hsz
                rw [e]
                exact ⟨rfl, f, cs, rfl, ext_r f, hG⟩
            · refine (i_astore <| i_aload rfl <| i_null_r ?_)
              refine b_G_request_75 hX _ _ _ _ _ (i_aload rfl <| i_aload rfl <| i_aload rfl <| ?_)
              refine j_callV (c_cell hA (by omega) h0) (sp_repeatAnswer (la := la) (va := va) hE hi (by omega) hG hle) rfl rfl ?_
              rintro w F' ⟨rfl, f3, c3, rfl, x3, hg3⟩
              refine (i_iret ?_)
              have e : p_request N S (nI i) (nI cc) n v = (if nI es.length ≤ rC (gR S i) then (1, g_ans S es) else (2, S)) := by
                rw [p_request, if_neg hc, rp, hcl, if_neg hl', if_neg hg', hsome]
              rw [e]
              by_cases h9 : nI es.length ≤ rC (gR S i)
              · rw [if_pos h9] at hg3 ⊢
                rw [if_pos h9]
                exact ⟨rfl, f3, c3, rfl, x3, hg3⟩
              · rw [if_neg h9] at hg3 ⊢
                rw [if_neg h9]
                exact ⟨rfl, f3, c3, rfl, x3, hg3⟩
          · intro hg
            refine b_G_request_55 hX _ _ _ _ _ (i_push <| i_iret ?_)
            have e : p_request N S (nI i) (nI cc) n v = (-3, S) := by
              rw [p_request, if_neg hc, rp, hcl, if_neg hl', if_pos (Int32.not_le.mp hg)]
            rw [e]
            exact ⟨rfl, f, cs, rfl, ext_r f, hG⟩
        · intro hl
          refine b_G_request_39 hX _ _ _ _ _ (i_push <| i_iret ?_)
          have e : p_request N S (nI i) (nI cc) n v = (-2, S) := by
            rw [p_request, if_neg hc, rp, hcl, if_pos (of_decide_eq_false hl)]
          rw [e]
          exact ⟨rfl, f, cs, rfl, ext_r f, hG⟩
      · intro hn
        exact h20 (fun q => hn q.2.2) _ _ _ _
end SPO
end
section
section SPR
variable {l : Launch} {D : va_G} {cid : Nat → ClassId} {F : HF} {A : Nat → Nat} {N i : Nat} {cs : Nat → PC}
abbrev cL0 : PC := .inl (0, [.null, .int 0, .int 0, .int 0, .int 0, .int 0])
abbrev cI0 (N : Nat) : PC := .inr (.inl (0, N, fun _ => 0))
abbrev cQ0 (N : Nat) : PC := .inr (.inr (2, N, fun _ => none))
abbrev cR0 (i q1 q2 q3 q4 q5 q6 : Nat) : PC := .inl (2, [.int (nI i), .int 0, .int 0, .int 0, .ref q1, .int 0, .ref q2, .ref q3, .int 0, .ref q4, .ref q5, .ref q6, .int 0])
theorem sp_P_init0 (hA : AI 1 A) (hN : N ≤ 5) (h0 : cs 0 = .inl (2, df_P)) : CS l D cid m_P_init [.ref (A 0), .int (nI i), .int (nI N)] (hC 1 A F cs) (fun v F' => v = none ∧ ∃ q1 q2 q3 q4 q5 q6, (¬ isA 1 A q1 ∧ ¬ isA 1 A q2 ∧ ¬ isA 1 A q3 ∧ ¬ isA 1 A q4 ∧ ¬ isA 1 A q5 ∧ ¬ isA 1 A q6) ∧
    (F q1 = none ∧ hup F q1 cL0 q2 = none ∧ hup (hup F q1 cL0) q2 (cI0 N) q3 = none ∧ hup (hup (hup F q1 cL0) q2 (cI0 N)) q3 (cI0 N) q4 = none ∧ hup (hup (hup (hup F q1 cL0) q2 (cI0 N)) q3 (cI0 N)) q4 (cQ0 N) q5 = none ∧ hup (hup (hup (hup (hup F q1 cL0) q2 (cI0 N)) q3 (cI0 N)) q4 (cQ0 N)) q5 (cQ0 N) q6 = none) ∧
    F' = hC 1 A (hup (hup (hup (hup (hup (hup F q1 cL0) q2 (cI0 N)) q3 (cI0 N)) q4 (cQ0 N)) q5 (cQ0 N)) q6 (cQ0 N)) (va_up cs 0 (cR0 i q1 q2 q3 q4 q5 q6))) := by
  intro X hX
  have h : 0 < 1 := Nat.zero_lt_one
  refine b_P_init_0 hX _ _ _ _ _ (i_aload rfl <| i_obj <| i_aload rfl <| i_push <| c_putI hA h h0 rfl <| i_aload rfl <| i_push <| c_putI hA h (va_s _ _ _) rfl <| i_aload rfl <| i_push <| c_putI hA h (va_s _ _ _) rfl <| i_aload rfl <| i_new ⟨by decide, by decide⟩ fun q1 hq1 => i_dup <| ?_)
  refine j_upI (sp_L_init (hup_s _ _ _)) rfl rfl ?_
  obtain ⟨a1, b1⟩ := hC_none hq1
  rw [hup_hup, hC_new hq1]
  refine (c_putR hA h (va_s _ _ _) rfl <| i_aload rfl <| i_push <| c_putI hA h (va_s _ _ _) rfl <| i_aload rfl <| i_push <| c_putZ hA h (va_s _ _ _) rfl <| i_aload rfl <| i_push <| c_putI hA h (va_s _ _ _) rfl <| i_aload rfl <| i_iload rfl <| c_putI hA h (va_s _ _ _) rfl <| i_aload rfl <| i_iload rfl <| i_newI ⟨rfl, by omega⟩ ⟨by decide, (show N ≤ 326 - 6 - 0 from by omega)⟩ fun q2 hq2 => ?_)
  obtain ⟨a2, b2⟩ := hC_none hq2
  rw [hC_new hq2]
  refine (c_putR hA h (va_s _ _ _) rfl <| i_aload rfl <| i_iload rfl <| i_newI ⟨rfl, by omega⟩ ⟨by decide, (show N ≤ 326 - 6 - 0 - N from by omega)⟩ fun q3 hq3 => ?_)
  obtain ⟨a3, b3⟩ := hC_none hq3
  rw [hC_new hq3]
  refine (c_putR hA h (va_s _ _ _) rfl <| i_aload rfl <| i_iload rfl <| i_newQ ⟨rfl, by omega⟩ ⟨by decide, (show N ≤ 326 - 6 - 0 - N - N from by omega)⟩ fun q4 hq4 => ?_)
  obtain ⟨a4, b4⟩ := hC_none hq4
  rw [hC_new hq4]
  refine (c_putR hA h (va_s _ _ _) rfl <| i_aload rfl <| i_iload rfl <| i_newQ ⟨rfl, by omega⟩ ⟨by decide, (show N ≤ 326 - 6 - 0 - N - N - N from by omega)⟩ fun q5 hq5 => ?_)
  obtain ⟨a5, b5⟩ := hC_none hq5
  rw [hC_new hq5]
  refine (c_putR hA h (va_s _ _ _) rfl <| i_aload rfl <| i_iload rfl <| i_newQ ⟨rfl, by omega⟩ ⟨by decide, (show N ≤ 326 - 6 - 0 - N - N - N - N from by omega)⟩ fun q6 hq6 => ?_)
  obtain ⟨a6, b6⟩ := hC_none hq6
  rw [hC_new hq6]
  refine (c_putR hA h (va_s _ _ _) rfl <| i_ret ?_)
  refine ⟨rfl, q1, q2, q3, q4, q5, q6, ⟨a1, a2, a3, a4, a5, a6⟩, ⟨b1, b2, b3, b4, b5, b6⟩, ?_⟩
  simp only [va_va]
  rfl
end SPR
end
