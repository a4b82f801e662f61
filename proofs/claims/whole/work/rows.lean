section
-- ===== PART A: goes FIRST, ahead of the names: the tables' words, and 'selects' of the private methods out of them =====
/-- a private method of a class that the tables say can be made, by its rows of tables_1 -/
def lw_okq (q : MethodName × Nat) : Prop := (q.1.cls ≠ "java/lang/invoke/MethodHandle" ∧ q.1.cls ≠ "java/lang/invoke/VarHandle") ∧ Cond.instantiable q.1.cls q.2 ∈ tables_1 ∧ Cond.privateMethod q.1 ∈ tables_1 ∧ Cond.instanceMethod q.1 ∈ tables_1
theorem lw_p0 : lw_okq (⟨"CommitCouncil", "howManyUp", "(II)I"⟩, 7) := ⟨⟨by decide +kernel, by decide +kernel⟩, List.mem_of_getElem? (i := 19) (by decide +kernel), List.mem_of_getElem? (i := 185) (by decide +kernel), List.mem_of_getElem? (i := 186) (by decide +kernel)⟩
theorem lw_p1 : lw_okq (⟨"CommitCouncil", "memberOf", "(II)LCommitCouncil$Member;"⟩, 7) := ⟨⟨by decide +kernel, by decide +kernel⟩, List.mem_of_getElem? (i := 19) (by decide +kernel), List.mem_of_getElem? (i := 189) (by decide +kernel), List.mem_of_getElem? (i := 190) (by decide +kernel)⟩
theorem lw_p2 : lw_okq (⟨"java/lang/Throwable", "fillInStackTrace", "(I)Ljava/lang/Throwable;"⟩, 6) := ⟨⟨by decide +kernel, by decide +kernel⟩, List.mem_of_getElem? (i := 233) (by decide +kernel), List.mem_of_getElem? (i := 231) (by decide +kernel), List.mem_of_getElem? (i := 232) (by decide +kernel)⟩
theorem lw_p3 : lw_okq (⟨"CommitCouncil", "howManyManagers", "(I)I"⟩, 7) := ⟨⟨by decide +kernel, by decide +kernel⟩, List.mem_of_getElem? (i := 19) (by decide +kernel), List.mem_of_getElem? (i := 279) (by decide +kernel), List.mem_of_getElem? (i := 280) (by decide +kernel)⟩
theorem lw_p4 : lw_okq (⟨"CommitCouncil", "isBackedByChosen", "(I)Z"⟩, 7) := ⟨⟨by decide +kernel, by decide +kernel⟩, List.mem_of_getElem? (i := 19) (by decide +kernel), List.mem_of_getElem? (i := 287) (by decide +kernel), List.mem_of_getElem? (i := 288) (by decide +kernel)⟩
theorem lw_p5 : lw_okq (⟨"CommitCouncil", "propose", "(III)Z"⟩, 7) := ⟨⟨by decide +kernel, by decide +kernel⟩, List.mem_of_getElem? (i := 19) (by decide +kernel), List.mem_of_getElem? (i := 302) (by decide +kernel), List.mem_of_getElem? (i := 303) (by decide +kernel)⟩
theorem lw_p6 : lw_okq (⟨"CommitCouncil", "sendVotes", "(III)V"⟩, 7) := ⟨⟨by decide +kernel, by decide +kernel⟩, List.mem_of_getElem? (i := 19) (by decide +kernel), List.mem_of_getElem? (i := 310) (by decide +kernel), List.mem_of_getElem? (i := 311) (by decide +kernel)⟩
theorem lw_p7 : lw_okq (⟨"CommitCouncil", "sendDecisions", "(I)V"⟩, 7) := ⟨⟨by decide +kernel, by decide +kernel⟩, List.mem_of_getElem? (i := 19) (by decide +kernel), List.mem_of_getElem? (i := 356) (by decide +kernel), List.mem_of_getElem? (i := 357) (by decide +kernel)⟩
theorem lw_p8 : lw_okq (⟨"CommitCouncil", "bring", "(I)I"⟩, 7) := ⟨⟨by decide +kernel, by decide +kernel⟩, List.mem_of_getElem? (i := 19) (by decide +kernel), List.mem_of_getElem? (i := 367) (by decide +kernel), List.mem_of_getElem? (i := 368) (by decide +kernel)⟩
theorem lw_p9 : lw_okq (⟨"CommitCouncil", "isUp", "(II)Z"⟩, 7) := ⟨⟨by decide +kernel, by decide +kernel⟩, List.mem_of_getElem? (i := 19) (by decide +kernel), List.mem_of_getElem? (i := 375) (by decide +kernel), List.mem_of_getElem? (i := 376) (by decide +kernel)⟩
theorem lw_p10 : lw_okq (⟨"CommitCouncil", "answersTo", "(III)I"⟩, 7) := ⟨⟨by decide +kernel, by decide +kernel⟩, List.mem_of_getElem? (i := 19) (by decide +kernel), List.mem_of_getElem? (i := 379) (by decide +kernel), List.mem_of_getElem? (i := 380) (by decide +kernel)⟩
theorem lw_p11 : lw_okq (⟨"CommitCouncil$Leader", "outcomeAfter", "(III)I"⟩, 10) := ⟨⟨by decide +kernel, by decide +kernel⟩, List.mem_of_getElem? (i := 74) (by decide +kernel), List.mem_of_getElem? (i := 390) (by decide +kernel), List.mem_of_getElem? (i := 391) (by decide +kernel)⟩
theorem lw_p12 : lw_okq (⟨"CommitCouncil", "take", "(III)V"⟩, 7) := ⟨⟨by decide +kernel, by decide +kernel⟩, List.mem_of_getElem? (i := 19) (by decide +kernel), List.mem_of_getElem? (i := 418) (by decide +kernel), List.mem_of_getElem? (i := 419) (by decide +kernel)⟩
theorem lw_p13 : lw_okq (⟨"CommitCouncil", "takeVote", "(II)V"⟩, 7) := ⟨⟨by decide +kernel, by decide +kernel⟩, List.mem_of_getElem? (i := 19) (by decide +kernel), List.mem_of_getElem? (i := 422) (by decide +kernel), List.mem_of_getElem? (i := 423) (by decide +kernel)⟩
theorem lw_p14 : lw_okq (⟨"CommitCouncil", "takeVoted", "(ILCommitCouncil$Leader;)V"⟩, 7) := ⟨⟨by decide +kernel, by decide +kernel⟩, List.mem_of_getElem? (i := 19) (by decide +kernel), List.mem_of_getElem? (i := 436) (by decide +kernel), List.mem_of_getElem? (i := 437) (by decide +kernel)⟩
theorem lw_p15 : lw_okq (⟨"CommitCouncil", "takeAsk", "(II)V"⟩, 7) := ⟨⟨by decide +kernel, by decide +kernel⟩, List.mem_of_getElem? (i := 19) (by decide +kernel), List.mem_of_getElem? (i := 448) (by decide +kernel), List.mem_of_getElem? (i := 449) (by decide +kernel)⟩
def lw_privs_1 : List (MethodName × Nat) := [(⟨"CommitCouncil", "howManyUp", "(II)I"⟩, 7), (⟨"CommitCouncil", "memberOf", "(II)LCommitCouncil$Member;"⟩, 7), (⟨"java/lang/Throwable", "fillInStackTrace", "(I)Ljava/lang/Throwable;"⟩, 6), (⟨"CommitCouncil", "howManyManagers", "(I)I"⟩, 7), (⟨"CommitCouncil", "isBackedByChosen", "(I)Z"⟩, 7), (⟨"CommitCouncil", "propose", "(III)Z"⟩, 7), (⟨"CommitCouncil", "sendVotes", "(III)V"⟩, 7), (⟨"CommitCouncil", "sendDecisions", "(I)V"⟩, 7), (⟨"CommitCouncil", "bring", "(I)I"⟩, 7), (⟨"CommitCouncil", "isUp", "(II)Z"⟩, 7), (⟨"CommitCouncil", "answersTo", "(III)I"⟩, 7), (⟨"CommitCouncil$Leader", "outcomeAfter", "(III)I"⟩, 10), (⟨"CommitCouncil", "take", "(III)V"⟩, 7), (⟨"CommitCouncil", "takeVote", "(II)V"⟩, 7), (⟨"CommitCouncil", "takeVoted", "(ILCommitCouncil$Leader;)V"⟩, 7), (⟨"CommitCouncil", "takeAsk", "(II)V"⟩, 7)]
theorem lw_r1 : ∀ q ∈ lw_privs_1, lw_okq q := List.forall_mem_cons.mpr ⟨lw_p0, List.forall_mem_cons.mpr ⟨lw_p1, List.forall_mem_cons.mpr ⟨lw_p2, List.forall_mem_cons.mpr ⟨lw_p3, List.forall_mem_cons.mpr ⟨lw_p4, List.forall_mem_cons.mpr ⟨lw_p5, List.forall_mem_cons.mpr ⟨lw_p6, List.forall_mem_cons.mpr ⟨lw_p7, List.forall_mem_cons.mpr ⟨lw_p8, List.forall_mem_cons.mpr ⟨lw_p9, List.forall_mem_cons.mpr ⟨lw_p10, List.forall_mem_cons.mpr ⟨lw_p11, List.forall_mem_cons.mpr ⟨lw_p12, List.forall_mem_cons.mpr ⟨lw_p13, List.forall_mem_cons.mpr ⟨lw_p14, List.forall_mem_cons.mpr ⟨lw_p15, fun _ h => absurd h List.not_mem_nil⟩⟩⟩⟩⟩⟩⟩⟩⟩⟩⟩⟩⟩⟩⟩⟩
theorem lw_p16 : lw_okq (⟨"CommitCouncil", "takeTold", "(ILCommitCouncil$Leader;)V"⟩, 7) := ⟨⟨by decide +kernel, by decide +kernel⟩, List.mem_of_getElem? (i := 19) (by decide +kernel), List.mem_of_getElem? (i := 465) (by decide +kernel), List.mem_of_getElem? (i := 466) (by decide +kernel)⟩
theorem lw_p17 : lw_okq (⟨"CommitCouncil", "startVoting", "(LCommitCouncil$Leader;)V"⟩, 7) := ⟨⟨by decide +kernel, by decide +kernel⟩, List.mem_of_getElem? (i := 19) (by decide +kernel), List.mem_of_getElem? (i := 473) (by decide +kernel), List.mem_of_getElem? (i := 474) (by decide +kernel)⟩
theorem lw_p18 : lw_okq (⟨"CommitCouncil", "takeQuestion", "(II)V"⟩, 7) := ⟨⟨by decide +kernel, by decide +kernel⟩, List.mem_of_getElem? (i := 19) (by decide +kernel), List.mem_of_getElem? (i := 478) (by decide +kernel), List.mem_of_getElem? (i := 479) (by decide +kernel)⟩
theorem lw_p19 : lw_okq (⟨"CommitCouncilModel", "becomes", "(II)Z"⟩, 26) := ⟨⟨by decide +kernel, by decide +kernel⟩, List.mem_of_getElem? (i := 595) (by decide +kernel), List.mem_of_getElem? (i := 690) (by decide +kernel), List.mem_of_getElem? (i := 691) (by decide +kernel)⟩
theorem lw_p20 : lw_okq (⟨"CommitCouncilModel", "isManager", "(I)Z"⟩, 26) := ⟨⟨by decide +kernel, by decide +kernel⟩, List.mem_of_getElem? (i := 595) (by decide +kernel), List.mem_of_getElem? (i := 694) (by decide +kernel), List.mem_of_getElem? (i := 695) (by decide +kernel)⟩
theorem lw_p21 : lw_okq (⟨"CommitCouncilModel", "lacks", "(Z)Z"⟩, 26) := ⟨⟨by decide +kernel, by decide +kernel⟩, List.mem_of_getElem? (i := 595) (by decide +kernel), List.mem_of_getElem? (i := 698) (by decide +kernel), List.mem_of_getElem? (i := 699) (by decide +kernel)⟩
theorem lw_p22 : lw_okq (⟨"CommitCouncilModel", "hasRoom", "(I)Z"⟩, 26) := ⟨⟨by decide +kernel, by decide +kernel⟩, List.mem_of_getElem? (i := 595) (by decide +kernel), List.mem_of_getElem? (i := 702) (by decide +kernel), List.mem_of_getElem? (i := 703) (by decide +kernel)⟩
theorem lw_p23 : lw_okq (⟨"CommitCouncilModel", "votes", "(III)V"⟩, 26) := ⟨⟨by decide +kernel, by decide +kernel⟩, List.mem_of_getElem? (i := 595) (by decide +kernel), List.mem_of_getElem? (i := 706) (by decide +kernel), List.mem_of_getElem? (i := 707) (by decide +kernel)⟩
theorem lw_p24 : lw_okq (⟨"CommitCouncilModel", "sends", "(IIIIII)V"⟩, 26) := ⟨⟨by decide +kernel, by decide +kernel⟩, List.mem_of_getElem? (i := 595) (by decide +kernel), List.mem_of_getElem? (i := 710) (by decide +kernel), List.mem_of_getElem? (i := 711) (by decide +kernel)⟩
theorem lw_p25 : lw_okq (⟨"CommitCouncilModel", "isMessage", "(I)Z"⟩, 26) := ⟨⟨by decide +kernel, by decide +kernel⟩, List.mem_of_getElem? (i := 595) (by decide +kernel), List.mem_of_getElem? (i := 737) (by decide +kernel), List.mem_of_getElem? (i := 738) (by decide +kernel)⟩
theorem lw_p26 : lw_okq (⟨"CommitCouncilModel", "comes", "(I)I"⟩, 26) := ⟨⟨by decide +kernel, by decide +kernel⟩, List.mem_of_getElem? (i := 595) (by decide +kernel), List.mem_of_getElem? (i := 741) (by decide +kernel), List.mem_of_getElem? (i := 742) (by decide +kernel)⟩
theorem lw_p27 : lw_okq (⟨"CommitCouncilModel", "of", "(II)I"⟩, 26) := ⟨⟨by decide +kernel, by decide +kernel⟩, List.mem_of_getElem? (i := 595) (by decide +kernel), List.mem_of_getElem? (i := 745) (by decide +kernel), List.mem_of_getElem? (i := 746) (by decide +kernel)⟩
theorem lw_p28 : lw_okq (⟨"CommitCouncilModel", "leadsTo", "(I)I"⟩, 26) := ⟨⟨by decide +kernel, by decide +kernel⟩, List.mem_of_getElem? (i := 595) (by decide +kernel), List.mem_of_getElem? (i := 749) (by decide +kernel), List.mem_of_getElem? (i := 750) (by decide +kernel)⟩
theorem lw_p29 : lw_okq (⟨"CommitCouncilModel", "isMost", "(I)Z"⟩, 26) := ⟨⟨by decide +kernel, by decide +kernel⟩, List.mem_of_getElem? (i := 595) (by decide +kernel), List.mem_of_getElem? (i := 756) (by decide +kernel), List.mem_of_getElem? (i := 757) (by decide +kernel)⟩
theorem lw_p30 : lw_okq (⟨"CommitCouncilModel", "decides", "(I)Z"⟩, 26) := ⟨⟨by decide +kernel, by decide +kernel⟩, List.mem_of_getElem? (i := 595) (by decide +kernel), List.mem_of_getElem? (i := 760) (by decide +kernel), List.mem_of_getElem? (i := 761) (by decide +kernel)⟩
theorem lw_p31 : lw_okq (⟨"CommitCouncilModel", "decided", "(II)I"⟩, 26) := ⟨⟨by decide +kernel, by decide +kernel⟩, List.mem_of_getElem? (i := 595) (by decide +kernel), List.mem_of_getElem? (i := 764) (by decide +kernel), List.mem_of_getElem? (i := 765) (by decide +kernel)⟩
def lw_privs_2 : List (MethodName × Nat) := [(⟨"CommitCouncil", "takeTold", "(ILCommitCouncil$Leader;)V"⟩, 7), (⟨"CommitCouncil", "startVoting", "(LCommitCouncil$Leader;)V"⟩, 7), (⟨"CommitCouncil", "takeQuestion", "(II)V"⟩, 7), (⟨"CommitCouncilModel", "becomes", "(II)Z"⟩, 26), (⟨"CommitCouncilModel", "isManager", "(I)Z"⟩, 26), (⟨"CommitCouncilModel", "lacks", "(Z)Z"⟩, 26), (⟨"CommitCouncilModel", "hasRoom", "(I)Z"⟩, 26), (⟨"CommitCouncilModel", "votes", "(III)V"⟩, 26), (⟨"CommitCouncilModel", "sends", "(IIIIII)V"⟩, 26), (⟨"CommitCouncilModel", "isMessage", "(I)Z"⟩, 26), (⟨"CommitCouncilModel", "comes", "(I)I"⟩, 26), (⟨"CommitCouncilModel", "of", "(II)I"⟩, 26), (⟨"CommitCouncilModel", "leadsTo", "(I)I"⟩, 26), (⟨"CommitCouncilModel", "isMost", "(I)Z"⟩, 26), (⟨"CommitCouncilModel", "decides", "(I)Z"⟩, 26), (⟨"CommitCouncilModel", "decided", "(II)I"⟩, 26)]
theorem lw_r2 : ∀ q ∈ lw_privs_2, lw_okq q := List.forall_mem_cons.mpr ⟨lw_p16, List.forall_mem_cons.mpr ⟨lw_p17, List.forall_mem_cons.mpr ⟨lw_p18, List.forall_mem_cons.mpr ⟨lw_p19, List.forall_mem_cons.mpr ⟨lw_p20, List.forall_mem_cons.mpr ⟨lw_p21, List.forall_mem_cons.mpr ⟨lw_p22, List.forall_mem_cons.mpr ⟨lw_p23, List.forall_mem_cons.mpr ⟨lw_p24, List.forall_mem_cons.mpr ⟨lw_p25, List.forall_mem_cons.mpr ⟨lw_p26, List.forall_mem_cons.mpr ⟨lw_p27, List.forall_mem_cons.mpr ⟨lw_p28, List.forall_mem_cons.mpr ⟨lw_p29, List.forall_mem_cons.mpr ⟨lw_p30, List.forall_mem_cons.mpr ⟨lw_p31, fun _ h => absurd h List.not_mem_nil⟩⟩⟩⟩⟩⟩⟩⟩⟩⟩⟩⟩⟩⟩⟩⟩
theorem lw_p32 : lw_okq (⟨"CommitCouncilModel", "settled", "(III)I"⟩, 26) := ⟨⟨by decide +kernel, by decide +kernel⟩, List.mem_of_getElem? (i := 595) (by decide +kernel), List.mem_of_getElem? (i := 768) (by decide +kernel), List.mem_of_getElem? (i := 769) (by decide +kernel)⟩
theorem lw_p33 : lw_okq (⟨"CommitCouncilModel", "ballotSeen", "(IIII)I"⟩, 26) := ⟨⟨by decide +kernel, by decide +kernel⟩, List.mem_of_getElem? (i := 595) (by decide +kernel), List.mem_of_getElem? (i := 772) (by decide +kernel), List.mem_of_getElem? (i := 773) (by decide +kernel)⟩
theorem lw_p34 : lw_okq (⟨"CommitCouncilModel", "isNew", "(IIII)Z"⟩, 26) := ⟨⟨by decide +kernel, by decide +kernel⟩, List.mem_of_getElem? (i := 595) (by decide +kernel), List.mem_of_getElem? (i := 776) (by decide +kernel), List.mem_of_getElem? (i := 777) (by decide +kernel)⟩
theorem lw_p35 : lw_okq (⟨"CommitCouncilModel", "seenAt", "(III)I"⟩, 26) := ⟨⟨by decide +kernel, by decide +kernel⟩, List.mem_of_getElem? (i := 595) (by decide +kernel), List.mem_of_getElem? (i := 780) (by decide +kernel), List.mem_of_getElem? (i := 781) (by decide +kernel)⟩
theorem lw_p36 : lw_okq (⟨"CommitCouncilModel", "remove", "(I)V"⟩, 26) := ⟨⟨by decide +kernel, by decide +kernel⟩, List.mem_of_getElem? (i := 595) (by decide +kernel), List.mem_of_getElem? (i := 784) (by decide +kernel), List.mem_of_getElem? (i := 785) (by decide +kernel)⟩
theorem lw_p37 : lw_okq (⟨"CommitCouncilModel", "voteComes", "(I)V"⟩, 26) := ⟨⟨by decide +kernel, by decide +kernel⟩, List.mem_of_getElem? (i := 595) (by decide +kernel), List.mem_of_getElem? (i := 788) (by decide +kernel), List.mem_of_getElem? (i := 789) (by decide +kernel)⟩
theorem lw_p38 : lw_okq (⟨"CommitCouncilModel", "askComes", "(I)V"⟩, 26) := ⟨⟨by decide +kernel, by decide +kernel⟩, List.mem_of_getElem? (i := 595) (by decide +kernel), List.mem_of_getElem? (i := 792) (by decide +kernel), List.mem_of_getElem? (i := 793) (by decide +kernel)⟩
theorem lw_p39 : lw_okq (⟨"CommitCouncilModel", "toldComes", "(I)V"⟩, 26) := ⟨⟨by decide +kernel, by decide +kernel⟩, List.mem_of_getElem? (i := 595) (by decide +kernel), List.mem_of_getElem? (i := 796) (by decide +kernel), List.mem_of_getElem? (i := 797) (by decide +kernel)⟩
theorem lw_p40 : lw_okq (⟨"CommitCouncilModel", "votedComes", "(IZ)V"⟩, 26) := ⟨⟨by decide +kernel, by decide +kernel⟩, List.mem_of_getElem? (i := 595) (by decide +kernel), List.mem_of_getElem? (i := 801) (by decide +kernel), List.mem_of_getElem? (i := 802) (by decide +kernel)⟩
theorem lw_p41 : lw_okq (⟨"CommitCouncilModel", "turns", "(IIZ)Z"⟩, 26) := ⟨⟨by decide +kernel, by decide +kernel⟩, List.mem_of_getElem? (i := 595) (by decide +kernel), List.mem_of_getElem? (i := 821) (by decide +kernel), List.mem_of_getElem? (i := 822) (by decide +kernel)⟩
theorem lw_p42 : lw_okq (⟨"CommitCouncilModel", "manyOf", "(I)I"⟩, 26) := ⟨⟨by decide +kernel, by decide +kernel⟩, List.mem_of_getElem? (i := 595) (by decide +kernel), List.mem_of_getElem? (i := 825) (by decide +kernel), List.mem_of_getElem? (i := 826) (by decide +kernel)⟩
theorem lw_p43 : lw_okq (⟨"CommitCouncilModel", "isAcceptor", "(I)Z"⟩, 26) := ⟨⟨by decide +kernel, by decide +kernel⟩, List.mem_of_getElem? (i := 595) (by decide +kernel), List.mem_of_getElem? (i := 849) (by decide +kernel), List.mem_of_getElem? (i := 850) (by decide +kernel)⟩
def lw_privs_3 : List (MethodName × Nat) := [(⟨"CommitCouncilModel", "settled", "(III)I"⟩, 26), (⟨"CommitCouncilModel", "ballotSeen", "(IIII)I"⟩, 26), (⟨"CommitCouncilModel", "isNew", "(IIII)Z"⟩, 26), (⟨"CommitCouncilModel", "seenAt", "(III)I"⟩, 26), (⟨"CommitCouncilModel", "remove", "(I)V"⟩, 26), (⟨"CommitCouncilModel", "voteComes", "(I)V"⟩, 26), (⟨"CommitCouncilModel", "askComes", "(I)V"⟩, 26), (⟨"CommitCouncilModel", "toldComes", "(I)V"⟩, 26), (⟨"CommitCouncilModel", "votedComes", "(IZ)V"⟩, 26), (⟨"CommitCouncilModel", "turns", "(IIZ)Z"⟩, 26), (⟨"CommitCouncilModel", "manyOf", "(I)I"⟩, 26), (⟨"CommitCouncilModel", "isAcceptor", "(I)Z"⟩, 26)]
theorem lw_r3 : ∀ q ∈ lw_privs_3, lw_okq q := List.forall_mem_cons.mpr ⟨lw_p32, List.forall_mem_cons.mpr ⟨lw_p33, List.forall_mem_cons.mpr ⟨lw_p34, List.forall_mem_cons.mpr ⟨lw_p35, List.forall_mem_cons.mpr ⟨lw_p36, List.forall_mem_cons.mpr ⟨lw_p37, List.forall_mem_cons.mpr ⟨lw_p38, List.forall_mem_cons.mpr ⟨lw_p39, List.forall_mem_cons.mpr ⟨lw_p40, List.forall_mem_cons.mpr ⟨lw_p41, List.forall_mem_cons.mpr ⟨lw_p42, List.forall_mem_cons.mpr ⟨lw_p43, fun _ h => absurd h List.not_mem_nil⟩⟩⟩⟩⟩⟩⟩⟩⟩⟩⟩⟩
def lw_privs : List (MethodName × Nat) := lw_privs_1 ++ (lw_privs_2 ++ (lw_privs_3))
def lw_tbl : List Cond := k2_sels lw_privs ++ tables_1
theorem lw_privs_ok : ∀ q ∈ lw_privs, lw_okq q := by
  show ∀ q ∈ lw_privs_1 ++ (lw_privs_2 ++ (lw_privs_3)), lw_okq q
  exact List.forall_mem_append.mpr ⟨lw_r1, List.forall_mem_append.mpr ⟨lw_r2, lw_r3⟩⟩
end
section
/-! ===== BEGIN words of one list among another's, by their places ===== -/
theorem goodIn_r {big : List Cond} (ws : List Cond) (ps : List Nat) (hp : ws = ps.filterMap (fun i => big[i]?)) (h : ws.all goodWord = true) : GoodIn big ws := by
  intro w hw
  have h1 := List.all_eq_true.mp h w hw
  rw [hp] at hw
  obtain ⟨i, -, hi⟩ := List.mem_filterMap.mp hw
  have hm : w ∈ big := by first | exact List.mem_of_getElem? hi | exact List.getElem?_mem hi
  exact ⟨hm, good_of_word h1⟩
theorem goodIn_app {big a b : List Cond} (ha : GoodIn big a) (hb : GoodIn big b) : GoodIn big (a ++ b) := fun w h => (List.mem_append.mp h).elim (ha w) (hb w)
theorem goodIn_ca {big a b : List Cond} {c : Cond} (ha : GoodIn big (c :: a)) (hb : GoodIn big b) : GoodIn big (c :: (a ++ b)) := fun w h => (List.mem_cons.mp h).elim (fun e => ha w (List.mem_cons.mpr (Or.inl e))) (fun h => (List.mem_append.mp h).elim (fun h => ha w (List.mem_cons.mpr (Or.inr h))) (hb w))
theorem goodIn_sub {big ws : List Cond} (hm : ∀ w ∈ ws, w ∈ big) (h : ws.all goodWord = true) : GoodIn big ws := fun w hw => ⟨hm w hw, good_of_word (List.all_eq_true.mp h w hw)⟩
/-! ===== END ===== -/


/-! ===== BEGIN exceptions that leave a method, and their catching by the caller (launches without stack traces) ===== -/
section VXA
/-! The laws vx_back, vx_callV, vx_callS, vx_callSW, vx_throw0, vx_throwS follow proofs of the library, with one case more: JvmDerived/Free/Laws.lean (Back.of_free), Shelf42/LK1.lean (callV, callS), Shelf/KitTraced.lean (throwNew0V, throwNewS). -/
/-- where a method has thrown q: the class by its name, the cell, what was written, the world -/
def vx_T (XC : String → State → State → Prop) (st : State) (q : Addr) (t : State) (mc ms : Nat) (free : Addr → Prop) : Prop :=
  ∃ (E : String) (ce : Cell) (L : List Loc), XC E st t ∧ t.heap[q]? = some ce ∧ ce.vm = .none ∧ st.vm.findClass E = some ce.cls ∧ st.WarmedH t.vm ∧ st.sameButNew ({ t with vm := st.vm } : State) L mc ms ∧ ∀ z ∈ L, free z.base
def vx_Q (Qc : Array Value → State → Outcome → State → Prop) (XC : String → State → State → Prop) (mc ms : Nat) (free : Addr → Prop) : Array Value → State → Outcome → State → Prop := fun a st o t =>
  (Qc a st o t ∧ ∃ L, FrameEnd st o t L mc ms ∧ ∀ q ∈ L, free q.base) ∨ ∃ q, o = .threw q ∧ vx_T XC st q t mc ms free
/-- a callee that returns or throws -/
def vx_Met (l : Launch) (y : MethodName) (ws : List Cond) (rm : Room) (Pc : Array Value → State → Prop) (Qc : Array Value → State → Outcome → State → Prop) (XC : String → State → State → Prop) (mc ms : Nat) (free : Addr → Prop) : Prop :=
  MetFree l y (headSpec ws rm) Pc (fun _ _ _ _ _ => True) (vx_Q Qc XC mc ms free)
def vx_Post (XC : String → State → State → Prop) (mc ms : Nat) (free : Addr → Prop) : Pt → Array Value → Addr → Pt → Prop := fun A a q B =>
  ∃ (g : JFrame) (mk : MethodId) (t : State) (L : List Loc) (E : String) (ce : Cell), B.U.heap = t.heap ∧ B.U.vm = t.vm ∧ XC E (A.U.calling g mk a) t ∧ t.heap[q]? = some ce ∧ ce.vm = .none ∧ A.U.vm.findClass E = some ce.cls ∧ B.locs = A.locs ++ L ∧ (∀ z ∈ L, free z.base) ∧ B.cells = A.cells + mc ∧ B.slots = A.slots + ms
def vx_Back (l : Launch) (R : Room) (p : Program) (e : Env) (below : List Frame) (s : State) (sargs : Array Value) (y : MethodName) (len W9 : Nat)
    (Pre : Pt → Array Value → Prop) (Post : Pt → Array Value → Option Value → Pt → Prop) (PostX : Pt → Array Value → Addr → Pt → Prop) : Prop :=
  ∀ (m : MethodId) (meth : Method) (c : Code) (A : Pt) (g : JFrame) (ig : Instr) (mk : MethodId) (a : Array Value),
    Stand p l e R s m sargs below meth c A.U A.locs A.cells A.slots → g.method = m → g.locals.size = c.maxLocals → decode c.code g.pc = .ok (ig, len) →
    2 * g.monitorRoom + (g.stack.map fun v => v.category).sum ≤ W9 → A.U.methodNamed? y = some mk → Pre A a →
    (∃ (v : Option Value) (B : Pt), Stand p l e R s m sargs below meth c B.U B.locs B.cells B.slots ∧ Post A a v B ∧
      Steps p.tables e below (doInvoke e (A.U.setTop g) [] mk a).1 (B.U.setTop { g with pc := g.pc + len, stack := v.toList ++ g.stack })) ∨
    (∃ (q : Addr) (B : Pt), Stand p l e R s m sargs below meth c B.U B.locs B.cells B.slots ∧ PostX A a q B ∧
      Steps p.tables e below (doInvoke e (A.U.setTop g) [] mk a).1 ((B.U.setTop g).pushFrame (.throwing q)))
section Payer
variable {l : Launch} {R : Room} {p : Program} {e : Env} {below : List Frame} {s : State} {sargs : Array Value} {y : MethodName} {len W9 : Nat}
theorem vx_back {ws : List Cond} {rm : Room} {Pc : Array Value → State → Prop} {Qc : Array Value → State → Outcome → State → Prop} {XC : String → State → State → Prop} {mc ms : Nat} {free : Addr → Prop} {bytes : ByteArray} {maxL : Nat} {ret : Option FieldType}
    (hM : vx_Met l y ws rm Pc Qc XC mc ms free) (hblind : FrameBlind Pc) (hrc : rm.cells = mc) (hrs : rm.slots = ms)
    (hframes : rm.frames + 1 ≤ R.frames) (hlocals : W9 + (maxL + 11) + rm.locals ≤ R.locals)
    (hws : ∀ w ∈ ws, ∀ a' U, s.WarmedH U.vm → w.before a' U = true) (hcode : Cond.code y bytes maxL ret ∈ ws) (hinit : ∀ a' U, s.WarmedH U.vm → (Cond.initialized y.cls).before a' U = true) :
    vx_Back l R p e below s sargs y len W9 (PreOf R mc ms Pc) (PostOf Qc mc ms free) (vx_Post XC mc ms free) := by
  intro m meth c A g ig mk a X hg hsize hdg hW hn hp
  have h1 : (headSpec ws rm).pre.before a A.U = true := atoms_intro fun w hw => hws w hw _ _ X.warmed
  have h2 : (Cond.code y bytes maxL ret).before a A.U = true := hws _ hcode _ _ X.warmed
  have h3 : (Cond.initialized y.cls).before a A.U = true := hinit _ _ X.warmed
  have h4 : A.cells + (headSpec ws rm).room.cells ≤ R.cells := by rw [show (headSpec ws rm).room.cells = mc from hrc]; exact hp.1
  have h5 : A.slots + (headSpec ws rm).room.slots ≤ R.slots := by rw [show (headSpec ws rm).room.slots = ms from hrs]; exact hp.2.1
  have hPc : Pc a (A.U.calling g mk a) := hblind _ _ _ _ hp.2.2
  obtain ⟨U, Ls, c0, s0⟩ := A
  dsimp only [Pt.U, Pt.locs, Pt.cells, Pt.slots] at h1 h2 h3 h4 h5 X hn hPc ⊢
  obtain ⟨methY, cY, hmY, hcY, -, hlY, -, -, -, -⟩ := Cond.code_spec hn h2
  obtain ⟨kY, hkY, -⟩ := className_of_methodNamed hn
  have hinitY : kY.init = .initialized := Cond.initialized_spec (findClass_of_methodNamed hn) hkY h3
  have h : At U g.method c below := by rw [hg]; exact X.here
  have hlocals9 : W9 + (maxL + 11) + (headSpec ws rm).room.locals ≤ R.locals := hlocals
  have happ : (headSpec ws rm).appliesLoose y e.platform (U.calling g mk a) = true :=
    Spec.appliesLoose_calling (g := g) h hdg hn hkY hinitY
      (X.room_calling (g := g) (R' := (headSpec ws rm).room) hsize hmY hcY hframes (by rw [hlY]; omega) h4 h5) h1
  obtain ⟨mid, hmid⟩ := h.above
  have hfr : (U.setTop g).frames = (.java g :: mid) ++ below := by rw [State.frames_setTop' g h.top, hmid]; rfl
  obtain ⟨o, s₂, hsteps, -, hend, hq⟩ := Steps.callFree hM p X.admits X.cas X.clock (acts := []) hfr happ hPc trivial
  have hq' : vx_Q Qc XC mc ms free a (U.calling g mk a) o s₂ := hq
  rw [State.frames_setTop' g h.top] at hend
  obtain ⟨g₀, hg0⟩ := Option.isSome_iff_exists.mp h.top
  obtain ⟨r, hr⟩ := State.topJava?_eq_some.mp hg0
  have hr' : (({ U with heap := s₂.heap, slotsUsed := s₂.slotsUsed } : State).setVm s₂.vm).frames = .java g₀ :: r := hr
  rcases hq' with ⟨hqc, L, hfe, hL⟩ | ⟨q, rfl, E, ce, L, hx, hce, hcv, hcl, hW₂, hsm, hL⟩
  · obtain ⟨⟨v, rfl⟩, hW₂, e2, q2, q3, q4, q5, q6⟩ := id hfe
    have e3 : s₂ = ({ (U.calling g mk a).setFrames s₂.frames with heap := s₂.heap, slotsUsed := s₂.slotsUsed } : State).setVm s₂.vm := by
      have : s₂ = ({ s₂ with vm := (U.calling g mk a).vm } : State).setVm s₂.vm := rfl
      rw [e2] at this
      exact this
    obtain ⟨c₂, i₂, len₂, hc₂, hd₂, hf₂⟩ := hend
    have hW' : U.WarmedH s₂.vm := hW₂
    have hcc : c₂ = c := by
      have h1 : s₂.code? g.method = U.code? g.method := by
        rw [State.code?_eq, State.code?_eq, hW'.alike.method?]
      exact Option.some.inj (hc₂.symm.trans (h1.trans h.code))
    subst hcc
    have hlen : len₂ = len := by rw [hdg] at hd₂; cases hd₂; rfl
    subst hlen
    have hs₂ : s₂ = (({ U with heap := s₂.heap, slotsUsed := s₂.slotsUsed } : State).setVm s₂.vm).setTop { g with pc := g.pc + len₂, stack := v.toList ++ g.stack } := by
      refine e3.trans ?_
      rw [hf₂, State.calling_eq h.top, State.setFrames_setFrames, State.setTop_of_frames _ hr', hr]
      rfl
    have hsame : U.sameButNew ({ U with heap := s₂.heap, slotsUsed := s₂.slotsUsed } : State) L mc ms := by
      refine ⟨?_, q2, q3, q4, q5, q6⟩
      obtain ⟨t, ht, -⟩ := State.frames_cons hr
      show ({ U with heap := s₂.heap, slotsUsed := s₂.slotsUsed } : State) = { U.setFrames U.frames with heap := s₂.heap, slotsUsed := s₂.slotsUsed }
      rw [State.setFrames_self ht]
    subst hg
    refine Or.inl ⟨v, ⟨(({ U with heap := s₂.heap, slotsUsed := s₂.slotsUsed } : State).setVm s₂.vm), Ls ++ L, c0 + mc, s0 + ms⟩,
      ⟨X.admits, X.cas, X.clock, X.frames, X.room, X.hears, X.method, X.code, (X.here.setHeapUsed s₂.heap s₂.slotsUsed).setVm hW'.alike, X.tail, State.WarmedH.trans X.warmed hW', X.limits, X.bytes, X.same.trans (hsame.setVm s.vm)⟩,
      ⟨g, mk, s₂, L, rfl, rfl, hqc, rfl, hL, rfl, rfl⟩, ?_⟩
    show Steps p.tables e below _ ((({ U with heap := s₂.heap, slotsUsed := s₂.slotsUsed } : State).setVm s₂.vm).setTop { g with pc := g.pc + len₂, stack := v.toList ++ g.stack })
    rw [← hs₂]
    exact hsteps
  · obtain ⟨e2, q2, q3, q4, q5, q6⟩ := id hsm
    have e3 : s₂ = ({ (U.calling g mk a).setFrames s₂.frames with heap := s₂.heap, slotsUsed := s₂.slotsUsed } : State).setVm s₂.vm := by
      have : s₂ = ({ s₂ with vm := (U.calling g mk a).vm } : State).setVm s₂.vm := rfl
      rw [e2] at this
      exact this
    have hf₂ : s₂.frames = .throwing q :: .java g :: U.frames.tail := hend
    have hW' : U.WarmedH s₂.vm := hW₂
    have hs₂ : s₂ = ((({ U with heap := s₂.heap, slotsUsed := s₂.slotsUsed } : State).setVm s₂.vm).setTop g).pushFrame (.throwing q) := by
      refine e3.trans ?_
      rw [hf₂, State.calling_eq h.top, State.setFrames_setFrames, State.pushFrame, State.frames_setTop _ hr', State.setTop_of_frames _ hr', State.setFrames_setFrames, hr]
      rfl
    have hsame : U.sameButNew ({ U with heap := s₂.heap, slotsUsed := s₂.slotsUsed } : State) L mc ms := by
      refine ⟨?_, q2, q3, q4, q5, q6⟩
      obtain ⟨t, ht, -⟩ := State.frames_cons hr
      show ({ U with heap := s₂.heap, slotsUsed := s₂.slotsUsed } : State) = { U.setFrames U.frames with heap := s₂.heap, slotsUsed := s₂.slotsUsed }
      rw [State.setFrames_self ht]
    subst hg
    refine Or.inr ⟨q, ⟨(({ U with heap := s₂.heap, slotsUsed := s₂.slotsUsed } : State).setVm s₂.vm), Ls ++ L, c0 + mc, s0 + ms⟩,
      ⟨X.admits, X.cas, X.clock, X.frames, X.room, X.hears, X.method, X.code, (X.here.setHeapUsed s₂.heap s₂.slotsUsed).setVm hW'.alike, X.tail, State.WarmedH.trans X.warmed hW', X.limits, X.bytes, X.same.trans (hsame.setVm s.vm)⟩,
      ⟨g, mk, s₂, L, E, ce, rfl, rfl, hx, hce, hcv, hcl, rfl, hL, rfl, rfl⟩, ?_⟩
    show Steps p.tables e below _ (((({ U with heap := s₂.heap, slotsUsed := s₂.slotsUsed } : State).setVm s₂.vm).setTop g).pushFrame (.throwing q))
    rw [← hs₂]
    exact hsteps
end Payer
section Calls
variable {p : Program} {l : Launch} {e : Env} {R : Room} {s : State} {m : MethodId} {args : Array Value} {below : List Frame} {meth : Method} {c : Code} {T : State} {locs : List Loc} {cells slots : Nat}
theorem vx_callV (X : Stand p l e R s m args below meth c T locs cells slots) (hexec : p.tables.exec = Jvm.exec) {own C : String} {index : Nat} {y : MethodName} {bytes : ByteArray} {maxL : Nat} {ret : Option FieldType}
    (hown : s.vm.findClass own = some m.cls) (hlink : (Cond.methodLink own index y).before args s = true) (hinst : (Cond.instanceMethod y).before args s = true) (hsel : (Cond.selects C y y).before args s = true)
    (hcode : (Cond.code y bytes maxL ret).before args s = true) (hy : y.cls ≠ "java/lang/invoke/MethodHandle" ∧ y.cls ≠ "java/lang/invoke/VarHandle")
    {W9 : Nat} {Pre : Pt → Array Value → Prop} {Post : Pt → Array Value → Option Value → Pt → Prop} {PostX : Pt → Array Value → Addr → Pt → Prop} (hK : vx_Back l R p e below s args y 3 W9 Pre Post PostX)
    {b : Addr} {cellB : Cell} (hcell : T.heap[b]? = some cellB) (hobj : cellB.vm.isStatics = false) (hcls : s.vm.findClass C = some cellB.cls)
    {g : JFrame} (hg : g.method = m) (hsize : g.locals.size = c.maxLocals) {argsL rest : List Value} (hlen : ∀ sig, parseMethodDescriptor y.desc = some sig → argsL.length = sig.parameters.length)
    (hstack : g.stack = argsL.reverse ++ .ref b :: rest) (hW : 2 * g.monitorRoom + (rest.map fun v => v.category).sum ≤ W9) (hdg : decode c.code g.pc = .ok (.invokevirtual index, 3))
    (hpre : ∀ vm₁, s.WarmedH vm₁ → Pre ⟨T.setVm vm₁, locs, cells, slots⟩ (Value.ref b :: argsL).toArray) :
    (∃ (v : Option Value) (vm₁ : Vm) (B : Pt), s.WarmedH vm₁ ∧ Stand p l e R s m args below meth c B.U B.locs B.cells B.slots ∧ Post ⟨T.setVm vm₁, locs, cells, slots⟩ (Value.ref b :: argsL).toArray v B ∧
      ∀ target, Steps p.tables e below (B.U.setTop { g with pc := g.pc + 3, stack := v.toList ++ rest }) target → Steps p.tables e below (T.setTop g) target) ∨
    (∃ (q : Addr) (vm₁ : Vm) (B : Pt), s.WarmedH vm₁ ∧ Stand p l e R s m args below meth c B.U B.locs B.cells B.slots ∧ PostX ⟨T.setVm vm₁, locs, cells, slots⟩ (Value.ref b :: argsL).toArray q B ∧
      Steps p.tables e below (T.setTop g) ((B.U.setTop { g with stack := rest }).pushFrame (.throwing q))) := by
  obtain ⟨mk, methM, hnamed, hmethM, hstM, habM⟩ := Cond.instanceMethod_spec hinst
  obtain ⟨methM', cM, hmethM', -, -, -, -, -, -, hsigM⟩ := Cond.code_spec hnamed hcode
  cases hmethM.symm.trans hmethM'
  obtain ⟨c2, r2, m2, q1, q2, q3, q4, kP, hkP, hkPi⟩ := Cond.selects_spec hsel
  cases hcls.symm.trans q1
  cases (State.methodFound?_of_named hnamed hy).symm.trans q2
  cases hnamed.symm.trans q3
  have hselP : selectMethod e.platform s.vm cellB.cls mk = .method mk := by rw [Launch.admits_selectMethod X.admits]; exact q4
  obtain ⟨vm₁, X₁, hstep₁⟩ := X.invokevirtual hexec hown hlink hnamed hmethM hstM hkP hkPi hy (a := b) (cell := cellB) hcell
    (fun z h => by rw [h] at hobj; cases hobj) hselP hmethM habM hkP hkPi (g := g) hg (argsL := argsL) (rest := rest) (hlen _ hsigM) hstack hdg
  rcases hK m meth c ⟨T.setVm vm₁, locs, cells, slots⟩ { g with stack := rest } (.invokevirtual index) mk (Value.ref b :: argsL).toArray X₁ hg hsize hdg hW (X₁.named hnamed) (hpre vm₁ X₁.warmed) with ⟨v, B, X', hpost, hsteps⟩ | ⟨q, B, X', hpost, hsteps⟩
  · exact Or.inl ⟨v, vm₁, B, X₁.warmed, X', hpost, fun target h => hstep₁ _ fun acts => by rw [doInvoke_state]; exact hsteps.trans h⟩
  · exact Or.inr ⟨q, vm₁, B, X₁.warmed, X', hpost, hstep₁ _ fun acts => by rw [doInvoke_state]; exact hsteps⟩
theorem vx_callS (X : Stand p l e R s m args below meth c T locs cells slots) (hexec : p.tables.exec = Jvm.exec) {own : String} {index : Nat} {y : MethodName} {bytes : ByteArray} {maxL : Nat} {ret : Option FieldType}
    (hown : s.vm.findClass own = some m.cls) (hlink : (Cond.methodLink own index y).before args s = true) (hstat : (Cond.static y).before args s = true) (hinit : (Cond.initialized y.cls).before args s = true)
    (hcode : (Cond.code y bytes maxL ret).before args s = true) (hy : y.cls ≠ "java/lang/invoke/MethodHandle" ∧ y.cls ≠ "java/lang/invoke/VarHandle")
    {W9 : Nat} {Pre : Pt → Array Value → Prop} {Post : Pt → Array Value → Option Value → Pt → Prop} {PostX : Pt → Array Value → Addr → Pt → Prop} (hK : vx_Back l R p e below s args y 3 W9 Pre Post PostX)
    {g : JFrame} (hg : g.method = m) (hsize : g.locals.size = c.maxLocals) {argsL rest : List Value} (hlen : ∀ sig, parseMethodDescriptor y.desc = some sig → argsL.length = sig.parameters.length)
    (hstack : g.stack = argsL.reverse ++ rest) (hW : 2 * g.monitorRoom + (rest.map fun v => v.category).sum ≤ W9) (hdg : decode c.code g.pc = .ok (.invokestatic index, 3))
    (hpre : ∀ vm₁, s.WarmedH vm₁ → Pre ⟨T.setVm vm₁, locs, cells, slots⟩ argsL.toArray) :
    (∃ (v : Option Value) (vm₁ : Vm) (B : Pt), s.WarmedH vm₁ ∧ Stand p l e R s m args below meth c B.U B.locs B.cells B.slots ∧ Post ⟨T.setVm vm₁, locs, cells, slots⟩ argsL.toArray v B ∧
      ∀ target, Steps p.tables e below (B.U.setTop { g with pc := g.pc + 3, stack := v.toList ++ rest }) target → Steps p.tables e below (T.setTop g) target) ∨
    (∃ (q : Addr) (vm₁ : Vm) (B : Pt), s.WarmedH vm₁ ∧ Stand p l e R s m args below meth c B.U B.locs B.cells B.slots ∧ PostX ⟨T.setVm vm₁, locs, cells, slots⟩ argsL.toArray q B ∧
      Steps p.tables e below (T.setTop g) ((B.U.setTop { g with stack := rest }).pushFrame (.throwing q))) := by
  obtain ⟨mk, hnamed⟩ := Cond.code_named hcode
  obtain ⟨methM, cM, hmethM, -, -, -, -, -, -, hsigM⟩ := Cond.code_spec hnamed hcode
  have hstatic : methM.isStatic = true := Cond.static_spec hnamed hmethM hstat
  obtain ⟨kP, hkP, -⟩ := className_of_methodNamed hnamed
  have hinitP : kP.init = .initialized := Cond.initialized_spec (findClass_of_methodNamed hnamed) hkP hinit
  obtain ⟨vm₁, X₁, hstep₁⟩ := X.invokestatic hexec hown hlink hnamed hmethM hstatic hkP hinitP hy (g := g) hg (argsL := argsL) (rest := rest) (hlen _ hsigM) hstack hdg
  rcases hK m meth c ⟨T.setVm vm₁, locs, cells, slots⟩ { g with stack := rest } (.invokestatic index) mk argsL.toArray X₁ hg hsize hdg hW (X₁.named hnamed) (hpre vm₁ X₁.warmed) with ⟨v, B, X', hpost, hsteps⟩ | ⟨q, B, X', hpost, hsteps⟩
  · exact Or.inl ⟨v, vm₁, B, X₁.warmed, X', hpost, fun target h => hstep₁ _ fun acts => by rw [doInvoke_state]; exact hsteps.trans h⟩
  · exact Or.inr ⟨q, vm₁, B, X₁.warmed, X', hpost, hstep₁ _ fun acts => by rw [doInvoke_state]; exact hsteps⟩
end Calls
theorem vx_cls {s : State} {T : State} {vm₁ : Vm} {E : String} {k : ClassId} (hW : s.WarmedH vm₁) (h : (T.setVm vm₁).vm.findClass E = some k) : s.vm.findClass E = some k := by
  have h1 : vm₁.findClass E = some k := h
  rw [hW.alike.findClass] at h1
  exact h1
/-- the method's frame g, with q thrown over it -/
def vx_W (p : Program) (l : Launch) (e : Env) (R : Room) (s : State) (m : MethodId) (args : Array Value) (below : List Frame) (meth : Method) (c : Code) (H : Heap) (locs : List Loc) (cells slots : Nat) (Q : State → Prop) (g : JFrame) (q : Addr) : Prop :=
  ∀ T : State, T.heap = H → Stand p l e R s m args below meth c T locs cells slots → ∃ t, Steps p.tables e below ((T.setTop g).pushFrame (.throwing q)) t ∧ Q t
def vx_Run (p : Program) (l : Launch) (e : Env) (R : Room) (s : State) (m : MethodId) (args : Array Value) (below : List Frame) (meth : Method) (c : Code) (H : Heap) (locs : List Loc) (cells slots mc ms : Nat) (g : JFrame) (rest : List Value) (Qa : State → Outcome → State → Prop) (XC : String → State → State → Prop) (free : Addr → Prop) : Prop :=
  ∀ T : State, T.heap = H → Stand p l e R s m args below meth c T locs cells slots →
    (∃ (v : Option Value) (st₀ t T' : State) (L : List Loc), st₀.heap = H ∧ Stand p l e R s m args below meth c T' (locs ++ L) (cells + mc) (slots + ms) ∧ (∀ q ∈ L, free q.base) ∧ T'.heap = t.heap ∧ T'.vm = t.vm ∧ Qa st₀ (.returned v) t ∧
      Goes p e below T g T' { g with pc := g.pc + 3, stack := v.toList ++ rest }) ∨
    (∃ (q : Addr) (st₀ t T' : State) (L : List Loc) (E : String) (ce : Cell), st₀.heap = H ∧ Stand p l e R s m args below meth c T' (locs ++ L) (cells + mc) (slots + ms) ∧ (∀ z ∈ L, free z.base) ∧ T'.heap = t.heap ∧ T'.vm = t.vm ∧ XC E st₀ t ∧ t.heap[q]? = some ce ∧ ce.vm = .none ∧ s.vm.findClass E = some ce.cls ∧
      Steps p.tables e below (T.setTop g) ((T'.setTop { g with stack := rest }).pushFrame (.throwing q)))
def vx_X {S : Type} (px : S → Prop) (B : String → S → State → Prop) (A : Nat → Prop) : String → State → State → Prop := fun E st t => ∃ u : S, px u ∧ B E u t ∧ va_F A st t
section Runs
variable {p : Program} {l : Launch} {e : Env} {R : Room} {s : State} {m : MethodId} {args : Array Value} {below : List Frame} {meth : Method} {c : Code} {H : Heap} {locs : List Loc} {cells slots : Nat}
variable {y : MethodName} {bytes cc : ByteArray} {maxL nL mc ms n index : Nat} {ret : Option FieldType} {ws : List Cond} {rm : Room} {Pc : Array Value → State → Prop} {Qc : Array Value → State → Outcome → State → Prop} {XC : String → State → State → Prop} {free : Addr → Prop} {Ts : List Cond} {own C : String} {b : Addr} {As rest : List Value} {g : JFrame}
theorem vx_callBack (cb : CallB R s args own index y bytes maxL ret ws rm mc ms n) (hM : vx_Met l y ws rm Pc Qc XC mc ms free) (hbl : FrameBlind Pc) : vx_Back l R p e below s args y 3 8 (PreOf R mc ms Pc) (PostOf Qc mc ms free) (vx_Post XC mc ms free) := by
  obtain ⟨hrc, hrs, hfr, hlo, hws, hcw, -, hini, -⟩ := cb
  exact vx_back (bytes := bytes) (maxL := maxL) (ret := ret) hM hbl hrc hrs hfr hlo hws hcw (fun a' U hW => word_at hW (Or.inl (by first | rfl | simp [Cond.onTables, Cond.keeps, Cond.steady])) hini)
theorem vx_runV (S : CallFix p m c cc nL s args Ts own) (hM : vx_Met l y ws rm Pc Qc XC mc ms free) (cw : CallW R s args own C index y bytes maxL ret ws rm mc ms n) (hp : PreV s H C b Pc As)
    (hg : g.method = m) (hn : As.length = n) (hsize : g.locals.size = nL) (hstack : g.stack = As.reverse ++ .ref b :: rest) (hW : 2 * g.monitorRoom + (rest.map fun v => v.category).sum ≤ 8) (hdg : decode cc g.pc = .ok (.invokevirtual index, 3)) (hf : cells + mc ≤ R.cells ∧ slots + ms ≤ R.slots) :
    vx_Run p l e R s m args below meth c H locs cells slots mc ms g rest (Qc (Value.ref b :: As).toArray) XC free := by
  have hK : vx_Back l R p e below s args y 3 8 (PreOf R mc ms Pc) (PostOf Qc mc ms free) (vx_Post XC mc ms free) := vx_callBack cw.1 hM hp.1
  obtain ⟨⟨-, -, -, -, -, -, hcode, -, hy, hlen, hl⟩, hin, hse⟩ := cw
  obtain ⟨hx, hb, hml, ho, -⟩ := S
  obtain ⟨-, ⟨cellB, hcB, hoB, hclB⟩, hPc⟩ := hp
  intro T hT X
  rcases vx_callV X hx (C := C) (bytes := bytes) (maxL := maxL) (ret := ret) ho hl hin hse hcode hy hK (by rw [hT]; exact hcB) hoB hclB hg (hsize.trans hml.symm) (argsL := As) (rest := rest) (fun sig h => hn.trans (hlen sig h)) hstack hW (by rw [hb]; exact hdg)
    (fun vm₁ hW₁ => ⟨hf.1, hf.2, hPc (T.setVm vm₁) hT hW₁⟩) with ⟨v, vm₁, ⟨U', l2, c2, s2⟩, hW₁, X', ⟨g', mk, t, L, e1, e2, hq, h1, hL, h2, h3⟩, st⟩ | ⟨q, vm₁, ⟨U', l2, c2, s2⟩, hW₁, X', ⟨g', mk, t, L, E, ce, e1, e2, hq, hce, hcv, hcl, h1, hL, h2, h3⟩, st⟩
  · dsimp only [Pt.U, Pt.locs, Pt.cells, Pt.slots] at X' e1 e2 h1 h2 h3 st
    subst h1; subst h2; subst h3
    exact Or.inl ⟨v, (T.setVm vm₁).calling g' mk (Value.ref b :: As).toArray, t, U', L, hT, X', hL, e1, e2, hq, st⟩
  · dsimp only [Pt.U, Pt.locs, Pt.cells, Pt.slots] at X' e1 e2 h1 h2 h3 st hcl
    subst h1; subst h2; subst h3
    exact Or.inr ⟨q, (T.setVm vm₁).calling g' mk (Value.ref b :: As).toArray, t, U', L, E, ce, hT, X', hL, e1, e2, hq, hce, hcv, vx_cls hW₁ hcl, st⟩
theorem vx_runS (S : CallFix p m c cc nL s args Ts own) (hM : vx_Met l y ws rm Pc Qc XC mc ms free) (cw : CallB R s args own index y bytes maxL ret ws rm mc ms n ∧ (Cond.static y).before args s = true) (hp : PreS s H Pc As)
    (hg : g.method = m) (hn : As.length = n) (hsize : g.locals.size = nL) (hstack : g.stack = As.reverse ++ rest) (hW : 2 * g.monitorRoom + (rest.map fun v => v.category).sum ≤ 8) (hdg : decode cc g.pc = .ok (.invokestatic index, 3)) (hf : cells + mc ≤ R.cells ∧ slots + ms ≤ R.slots) :
    vx_Run p l e R s m args below meth c H locs cells slots mc ms g rest (Qc As.toArray) XC free := by
  have hK : vx_Back l R p e below s args y 3 8 (PreOf R mc ms Pc) (PostOf Qc mc ms free) (vx_Post XC mc ms free) := vx_callBack cw.1 hM hp.1
  obtain ⟨⟨-, -, -, -, -, -, hcode, hini, hy, hlen, hl⟩, hstt⟩ := cw
  obtain ⟨hx, hb, hml, ho, -⟩ := S
  intro T hT X
  rcases vx_callS X hx (bytes := bytes) (maxL := maxL) (ret := ret) ho hl hstt hini hcode hy hK hg (hsize.trans hml.symm) (argsL := As) (rest := rest) (fun sig h => hn.trans (hlen sig h)) hstack hW (by rw [hb]; exact hdg)
    (fun vm₁ hW₁ => ⟨hf.1, hf.2, hp.2 (T.setVm vm₁) hT hW₁⟩) with ⟨v, vm₁, ⟨U', l2, c2, s2⟩, hW₁, X', ⟨g', mk, t, L, e1, e2, hq, h1, hL, h2, h3⟩, st⟩ | ⟨q, vm₁, ⟨U', l2, c2, s2⟩, hW₁, X', ⟨g', mk, t, L, E, ce, e1, e2, hq, hce, hcv, hcl, h1, hL, h2, h3⟩, st⟩
  · dsimp only [Pt.U, Pt.locs, Pt.cells, Pt.slots] at X' e1 e2 h1 h2 h3 st
    subst h1; subst h2; subst h3
    exact Or.inl ⟨v, (T.setVm vm₁).calling g' mk As.toArray, t, U', L, hT, X', hL, e1, e2, hq, st⟩
  · dsimp only [Pt.U, Pt.locs, Pt.cells, Pt.slots] at X' e1 e2 h1 h2 h3 st hcl
    subst h1; subst h2; subst h3
    exact Or.inr ⟨q, (T.setVm vm₁).calling g' mk As.toArray, t, U', L, E, ce, hT, X', hL, e1, e2, hq, hce, hcv, vx_cls hW₁ hcl, st⟩
end Runs
section Rows
variable {p : Program} {l : Launch} {e : Env} {R : Room} {s : State} {m : MethodId} {args : Array Value} {below : List Frame} {meth : Method} {c : Code} {H : Heap} {locs : List Loc} {cells slots : Nat} {Q : State → Prop}
variable {mc ms : Nat} {free : Addr → Prop} {A0 A1 : Nat → Prop} {H0 : Heap} {a : Array Value} {pc : Nat} {ls : Array Slot} {st0 rest : List Value}
theorem vx_keep {st₀ t T' : State} {L : List Loc} (h0 : st₀.heap = H) (e1 : T'.heap = t.heap) (hS : va_S A0 H0 H locs) (hA : ∀ q, q < H.size → A1 q → A0 q) (hf : ∀ q, free q → A0 q) (hL : ∀ q ∈ L, free q.base) (hF : va_F A1 st₀ t) :
    H.size ≤ T'.heap.size ∧ (∀ q : Nat, q < H.size → ¬ A1 q → T'.heap[q]? = H[q]?) ∧ va_S A0 H0 T'.heap (locs ++ L) := by
  obtain ⟨hz, hk⟩ := hF
  rw [h0] at hz hk
  exact ⟨by rw [e1]; exact hz, fun q h1 h2 => by rw [e1]; exact hk q h1 h2,
    ⟨Nat.le_trans hS.1 (by rw [e1]; exact hz), fun q h1 h2 => by rw [e1, hk q (Nat.lt_of_lt_of_le h1 hS.1) (fun z => h2 (hA q (Nat.lt_of_lt_of_le h1 hS.1) z))]; exact hS.2.1 q h1 h2, fun q hq => by
      rcases List.mem_append.mp hq with h | h
      · exact hS.2.2 q h
      · exact hf _ (hL q h)⟩⟩
theorem vx_calli {S SX : Type} {post : Int32 → S → Prop} {px : SX → Prop} {B : S → State → Prop} {BX : String → SX → State → Prop} {AX : Nat → Prop} (hr : vx_Run p l e R s m args below meth c H locs cells slots mc ms (F0 m pc ls st0) rest (va_Qi post B A1 a) (vx_X px BX AX) free) (hS : va_S A0 H0 H locs) (hA : ∀ q, q < H.size → A1 q → A0 q) (hf : ∀ q, free q → A0 q) (hAX : ∀ q, q < H.size → AX q → A0 q)
    (kx : ∀ (E : String) (ce : Cell) (q9 : Addr) (u : SX) (t : State) (H1 : Heap) (locs1 : List Loc), t.heap = H1 → s.vm.Alike t.vm → px u → BX E u t → H.size ≤ H1.size → (∀ q : Nat, q < H.size → ¬ AX q → H1[q]? = H[q]?) → va_S A0 H0 H1 locs1 → H1[q9]? = some ce → ce.vm = .none → s.vm.findClass E = some ce.cls → vx_W p l e R s m args below meth c H1 locs1 (cells + mc) (slots + ms) Q (F0 m pc ls rest) q9)
    (kk : ∀ (r : Int32) (u : S) (t : State) (H1 : Heap) (locs1 : List Loc), t.heap = H1 → s.vm.Alike t.vm → post r u → B u t → H.size ≤ H1.size → (∀ q : Nat, q < H.size → ¬ A1 q → H1[q]? = H[q]?) → va_S A0 H0 H1 locs1 → W p l e R s m args below meth c H1 locs1 (cells + mc) (slots + ms) Q (F0 m (pc + 3) ls (.int r :: rest))) : W p l e R s m args below meth c H locs cells slots Q (F0 m pc ls st0) := by
  intro T hT X
  rcases hr T hT X with ⟨v, st₀, t, T', L, h0, X', hL, e1, e2, ⟨⟨r, u, hv, hp, hb⟩, hF⟩, st⟩ | ⟨q, st₀, t, T', L, E, ce, h0, X', hL, e1, e2, ⟨u, hp, hb, hF⟩, hce, hcv, hcl, st⟩
  · cases hv
    obtain ⟨k1, k2, k3⟩ := vx_keep h0 e1 hS hA hf hL hF
    obtain ⟨t2, a1, b1⟩ := kk r u t T'.heap (locs ++ L) e1.symm (by rw [← e2]; exact X'.warmed.alike) hp hb k1 k2 k3 T' rfl X'
    exact ⟨t2, st t2 a1, b1⟩
  · obtain ⟨k1, k2, k3⟩ := vx_keep h0 e1 hS hAX hf hL hF
    obtain ⟨t2, a1, b1⟩ := kx E ce q u t T'.heap (locs ++ L) e1.symm (by rw [← e2]; exact X'.warmed.alike) hp hb k1 k2 k3 (by rw [e1]; exact hce) hcv hcl T' rfl X'
    exact ⟨t2, st.trans a1, b1⟩
theorem vx_calll {S SX : Type} {post : Int64 → S → Prop} {px : SX → Prop} {B : S → State → Prop} {BX : String → SX → State → Prop} {AX : Nat → Prop} (hr : vx_Run p l e R s m args below meth c H locs cells slots mc ms (F0 m pc ls st0) rest (va_Ql post B A1 a) (vx_X px BX AX) free) (hS : va_S A0 H0 H locs) (hA : ∀ q, q < H.size → A1 q → A0 q) (hf : ∀ q, free q → A0 q) (hAX : ∀ q, q < H.size → AX q → A0 q)
    (kx : ∀ (E : String) (ce : Cell) (q9 : Addr) (u : SX) (t : State) (H1 : Heap) (locs1 : List Loc), t.heap = H1 → s.vm.Alike t.vm → px u → BX E u t → H.size ≤ H1.size → (∀ q : Nat, q < H.size → ¬ AX q → H1[q]? = H[q]?) → va_S A0 H0 H1 locs1 → H1[q9]? = some ce → ce.vm = .none → s.vm.findClass E = some ce.cls → vx_W p l e R s m args below meth c H1 locs1 (cells + mc) (slots + ms) Q (F0 m pc ls rest) q9)
    (kk : ∀ (r : Int64) (u : S) (t : State) (H1 : Heap) (locs1 : List Loc), t.heap = H1 → s.vm.Alike t.vm → post r u → B u t → H.size ≤ H1.size → (∀ q : Nat, q < H.size → ¬ A1 q → H1[q]? = H[q]?) → va_S A0 H0 H1 locs1 → W p l e R s m args below meth c H1 locs1 (cells + mc) (slots + ms) Q (F0 m (pc + 3) ls (.long r :: rest))) : W p l e R s m args below meth c H locs cells slots Q (F0 m pc ls st0) := by
  intro T hT X
  rcases hr T hT X with ⟨v, st₀, t, T', L, h0, X', hL, e1, e2, ⟨⟨r, u, hv, hp, hb⟩, hF⟩, st⟩ | ⟨q, st₀, t, T', L, E, ce, h0, X', hL, e1, e2, ⟨u, hp, hb, hF⟩, hce, hcv, hcl, st⟩
  · cases hv
    obtain ⟨k1, k2, k3⟩ := vx_keep h0 e1 hS hA hf hL hF
    obtain ⟨t2, a1, b1⟩ := kk r u t T'.heap (locs ++ L) e1.symm (by rw [← e2]; exact X'.warmed.alike) hp hb k1 k2 k3 T' rfl X'
    exact ⟨t2, st t2 a1, b1⟩
  · obtain ⟨k1, k2, k3⟩ := vx_keep h0 e1 hS hAX hf hL hF
    obtain ⟨t2, a1, b1⟩ := kx E ce q u t T'.heap (locs ++ L) e1.symm (by rw [← e2]; exact X'.warmed.alike) hp hb k1 k2 k3 (by rw [e1]; exact hce) hcv hcl T' rfl X'
    exact ⟨t2, st.trans a1, b1⟩
theorem vx_callf {S SX : Type} {post : UInt32 → S → Prop} {px : SX → Prop} {B : S → State → Prop} {BX : String → SX → State → Prop} {AX : Nat → Prop} (hr : vx_Run p l e R s m args below meth c H locs cells slots mc ms (F0 m pc ls st0) rest (va_Qf post B A1 a) (vx_X px BX AX) free) (hS : va_S A0 H0 H locs) (hA : ∀ q, q < H.size → A1 q → A0 q) (hf : ∀ q, free q → A0 q) (hAX : ∀ q, q < H.size → AX q → A0 q)
    (kx : ∀ (E : String) (ce : Cell) (q9 : Addr) (u : SX) (t : State) (H1 : Heap) (locs1 : List Loc), t.heap = H1 → s.vm.Alike t.vm → px u → BX E u t → H.size ≤ H1.size → (∀ q : Nat, q < H.size → ¬ AX q → H1[q]? = H[q]?) → va_S A0 H0 H1 locs1 → H1[q9]? = some ce → ce.vm = .none → s.vm.findClass E = some ce.cls → vx_W p l e R s m args below meth c H1 locs1 (cells + mc) (slots + ms) Q (F0 m pc ls rest) q9)
    (kk : ∀ (r : UInt32) (u : S) (t : State) (H1 : Heap) (locs1 : List Loc), t.heap = H1 → s.vm.Alike t.vm → post r u → B u t → H.size ≤ H1.size → (∀ q : Nat, q < H.size → ¬ A1 q → H1[q]? = H[q]?) → va_S A0 H0 H1 locs1 → W p l e R s m args below meth c H1 locs1 (cells + mc) (slots + ms) Q (F0 m (pc + 3) ls (.float r :: rest))) : W p l e R s m args below meth c H locs cells slots Q (F0 m pc ls st0) := by
  intro T hT X
  rcases hr T hT X with ⟨v, st₀, t, T', L, h0, X', hL, e1, e2, ⟨⟨r, u, hv, hp, hb⟩, hF⟩, st⟩ | ⟨q, st₀, t, T', L, E, ce, h0, X', hL, e1, e2, ⟨u, hp, hb, hF⟩, hce, hcv, hcl, st⟩
  · cases hv
    obtain ⟨k1, k2, k3⟩ := vx_keep h0 e1 hS hA hf hL hF
    obtain ⟨t2, a1, b1⟩ := kk r u t T'.heap (locs ++ L) e1.symm (by rw [← e2]; exact X'.warmed.alike) hp hb k1 k2 k3 T' rfl X'
    exact ⟨t2, st t2 a1, b1⟩
  · obtain ⟨k1, k2, k3⟩ := vx_keep h0 e1 hS hAX hf hL hF
    obtain ⟨t2, a1, b1⟩ := kx E ce q u t T'.heap (locs ++ L) e1.symm (by rw [← e2]; exact X'.warmed.alike) hp hb k1 k2 k3 (by rw [e1]; exact hce) hcv hcl T' rfl X'
    exact ⟨t2, st.trans a1, b1⟩
theorem vx_calld {S SX : Type} {post : UInt64 → S → Prop} {px : SX → Prop} {B : S → State → Prop} {BX : String → SX → State → Prop} {AX : Nat → Prop} (hr : vx_Run p l e R s m args below meth c H locs cells slots mc ms (F0 m pc ls st0) rest (va_Qd post B A1 a) (vx_X px BX AX) free) (hS : va_S A0 H0 H locs) (hA : ∀ q, q < H.size → A1 q → A0 q) (hf : ∀ q, free q → A0 q) (hAX : ∀ q, q < H.size → AX q → A0 q)
    (kx : ∀ (E : String) (ce : Cell) (q9 : Addr) (u : SX) (t : State) (H1 : Heap) (locs1 : List Loc), t.heap = H1 → s.vm.Alike t.vm → px u → BX E u t → H.size ≤ H1.size → (∀ q : Nat, q < H.size → ¬ AX q → H1[q]? = H[q]?) → va_S A0 H0 H1 locs1 → H1[q9]? = some ce → ce.vm = .none → s.vm.findClass E = some ce.cls → vx_W p l e R s m args below meth c H1 locs1 (cells + mc) (slots + ms) Q (F0 m pc ls rest) q9)
    (kk : ∀ (r : UInt64) (u : S) (t : State) (H1 : Heap) (locs1 : List Loc), t.heap = H1 → s.vm.Alike t.vm → post r u → B u t → H.size ≤ H1.size → (∀ q : Nat, q < H.size → ¬ A1 q → H1[q]? = H[q]?) → va_S A0 H0 H1 locs1 → W p l e R s m args below meth c H1 locs1 (cells + mc) (slots + ms) Q (F0 m (pc + 3) ls (.double r :: rest))) : W p l e R s m args below meth c H locs cells slots Q (F0 m pc ls st0) := by
  intro T hT X
  rcases hr T hT X with ⟨v, st₀, t, T', L, h0, X', hL, e1, e2, ⟨⟨r, u, hv, hp, hb⟩, hF⟩, st⟩ | ⟨q, st₀, t, T', L, E, ce, h0, X', hL, e1, e2, ⟨u, hp, hb, hF⟩, hce, hcv, hcl, st⟩
  · cases hv
    obtain ⟨k1, k2, k3⟩ := vx_keep h0 e1 hS hA hf hL hF
    obtain ⟨t2, a1, b1⟩ := kk r u t T'.heap (locs ++ L) e1.symm (by rw [← e2]; exact X'.warmed.alike) hp hb k1 k2 k3 T' rfl X'
    exact ⟨t2, st t2 a1, b1⟩
  · obtain ⟨k1, k2, k3⟩ := vx_keep h0 e1 hS hAX hf hL hF
    obtain ⟨t2, a1, b1⟩ := kx E ce q u t T'.heap (locs ++ L) e1.symm (by rw [← e2]; exact X'.warmed.alike) hp hb k1 k2 k3 (by rw [e1]; exact hce) hcv hcl T' rfl X'
    exact ⟨t2, st.trans a1, b1⟩
theorem vx_callv {S SX : Type} {post : S → Prop} {px : SX → Prop} {B : S → State → Prop} {BX : String → SX → State → Prop} {AX : Nat → Prop} (hr : vx_Run p l e R s m args below meth c H locs cells slots mc ms (F0 m pc ls st0) rest (va_Qv post B A1 a) (vx_X px BX AX) free) (hS : va_S A0 H0 H locs) (hA : ∀ q, q < H.size → A1 q → A0 q) (hf : ∀ q, free q → A0 q) (hAX : ∀ q, q < H.size → AX q → A0 q)
    (kx : ∀ (E : String) (ce : Cell) (q9 : Addr) (u : SX) (t : State) (H1 : Heap) (locs1 : List Loc), t.heap = H1 → s.vm.Alike t.vm → px u → BX E u t → H.size ≤ H1.size → (∀ q : Nat, q < H.size → ¬ AX q → H1[q]? = H[q]?) → va_S A0 H0 H1 locs1 → H1[q9]? = some ce → ce.vm = .none → s.vm.findClass E = some ce.cls → vx_W p l e R s m args below meth c H1 locs1 (cells + mc) (slots + ms) Q (F0 m pc ls rest) q9)
    (kk : ∀ (u : S) (t : State) (H1 : Heap) (locs1 : List Loc), t.heap = H1 → s.vm.Alike t.vm → post u → B u t → H.size ≤ H1.size → (∀ q : Nat, q < H.size → ¬ A1 q → H1[q]? = H[q]?) → va_S A0 H0 H1 locs1 → W p l e R s m args below meth c H1 locs1 (cells + mc) (slots + ms) Q (F0 m (pc + 3) ls (rest))) : W p l e R s m args below meth c H locs cells slots Q (F0 m pc ls st0) := by
  intro T hT X
  rcases hr T hT X with ⟨v, st₀, t, T', L, h0, X', hL, e1, e2, ⟨⟨u, hv, hp, hb⟩, hF⟩, st⟩ | ⟨q, st₀, t, T', L, E, ce, h0, X', hL, e1, e2, ⟨u, hp, hb, hF⟩, hce, hcv, hcl, st⟩
  · cases hv
    obtain ⟨k1, k2, k3⟩ := vx_keep h0 e1 hS hA hf hL hF
    obtain ⟨t2, a1, b1⟩ := kk u t T'.heap (locs ++ L) e1.symm (by rw [← e2]; exact X'.warmed.alike) hp hb k1 k2 k3 T' rfl X'
    exact ⟨t2, st t2 a1, b1⟩
  · obtain ⟨k1, k2, k3⟩ := vx_keep h0 e1 hS hAX hf hL hF
    obtain ⟨t2, a1, b1⟩ := kx E ce q u t T'.heap (locs ++ L) e1.symm (by rw [← e2]; exact X'.warmed.alike) hp hb k1 k2 k3 (by rw [e1]; exact hce) hcv hcl T' rfl X'
    exact ⟨t2, st.trans a1, b1⟩
end Rows
section Ends
variable {p : Program} {l : Launch} {e : Env} {R : Room} {s : State} {m : MethodId} {args : Array Value} {below : List Frame} {meth : Method} {c : Code} {H : Heap} {locs : List Loc} {cells slots : Nat} {Q : State → Prop}
variable {mc ms : Nat} {free : Addr → Prop} {A0 A1 : Nat → Prop} {H0 : Heap} {a : Array Value} {ls : Array Slot} {st0 rest : List Value}
variable {Qc : Array Value → State → Outcome → State → Prop} {XC : String → State → State → Prop}
/-- what a body that may throw owes at its end -/
def vx_MQ (below : List Frame) (Qc : Array Value → State → Outcome → State → Prop) (XC : String → State → State → Prop) (a : Array Value) (s : State) (mc ms : Nat) (free : Addr → Prop) : State → Prop := fun t =>
  ∃ o, t.status = .running ∧ Ended t below o ∧ vx_Q Qc XC mc ms free a s o t
theorem vx_ret {g : JFrame} {mc ms : Nat} (k : W p l e R s m args below meth c H locs cells slots (MQ below Qc args s mc ms free) g) : W p l e R s m args below meth c H locs cells slots (vx_MQ below Qc XC args s mc ms free) g := by
  intro T hT X
  obtain ⟨t, a1, o, b1, b2, b3, b4⟩ := k T hT X
  exact ⟨t, a1, o, b1, b2, Or.inl ⟨b3, b4⟩⟩
/-- not caught here: it goes on to the caller -/
theorem vx_widen {g : JFrame} {q : Addr} {k n : Nat} (h1 : cells ≤ k) (h2 : slots ≤ n) (kk : vx_W p l e R s m args below meth c H locs k n Q g q) : vx_W p l e R s m args below meth c H locs cells slots Q g q := fun T hT X => kk T hT (stand_widen X h1 h2)
theorem vx_out {pc : Nat} {E : String} {ce : Cell} {q : Addr} {mc ms : Nat} (hout : ∀ x ∈ c.exceptionTable.toList, covers x pc = false) (hlocks : meth.locks = false) (hcell : H[q]? = some ce) (hv : ce.vm = .none) (hcl : s.vm.findClass E = some ce.cls)
    (hx : ∀ t : State, t.heap = H → s.vm.Alike t.vm → XC E s t) (hf : ∀ z ∈ locs, free z.base) (hc : cells ≤ mc) (hs : slots ≤ ms) :
    vx_W p l e R s m args below meth c H locs cells slots (vx_MQ below Qc XC args s mc ms free) (F0 m pc ls rest) q := by
  intro T hT X
  obtain ⟨st1, hrun, hend, hW, hsm⟩ := X.leaveThrown q (g := F0 m pc ls rest) rfl rfl rfl hout hlocks
  have hcell9 : (T.setFrames (.throwing q :: below)).heap[q]? = some ce := by
    show T.heap[q]? = some ce
    rw [hT]; exact hcell
  exact ⟨_, st1, .threw q, hrun, hend, Or.inr ⟨q, rfl, E, ce, locs, hx _ hT hW.alike, hcell9, hv, hcl, hW, hsm.mono hc hs, hf⟩⟩
theorem vx_frame {U : State} {k n : Nat} (h : s.sameButNew ({ U with vm := s.vm } : State) locs k n) : s.heap.size ≤ U.heap.size ∧ ∀ q : Nat, q < s.heap.size → (∀ z ∈ locs, z.base ≠ q) → U.heap[q]? = s.heap[q]? := by
  obtain ⟨-, h2, -, -, -, h6⟩ := h
  refine ⟨h2, fun q hq hz => ?_⟩
  obtain ⟨c9, e1, e2, e3, e4⟩ := h6 q _ (Array.getElem?_eq_getElem hq)
  have hs : c9.slots = (s.heap[q]).slots := Array.ext_getElem? fun i => e4 i fun hm => hz _ hm rfl
  have h9 : c9 = s.heap[q] := by
    rw [hs] at e2
    exact e2
  have e5 : U.heap[q]? = some c9 := e1
  rw [e5, h9, Array.getElem?_eq_getElem hq]
/-- the words of a throw but the four that speak of the heap -/
def vx_no (w : Cond) : Bool := decide (w ≠ .isRef (.static Bundle.tN "UNASSIGNED_STACK" Bundle.steD)) && decide (w ≠ .isRef (.static Bundle.tN "SUPPRESSED_SENTINEL" Bundle.listD)) && decide (w ≠ .laysStatic Bundle.tN "UNASSIGNED_STACK" Bundle.steD) && decide (w ≠ .laysStatic Bundle.tN "SUPPRESSED_SENTINEL" Bundle.listD)
def vx_at0 (own : String) (ic : Nat) (X : String) (names : List String) : List Cond := (Bundle.ownAtoms0 own ic X names).filter vx_no
def vx_atS (own : String) (ic : Nat) (X : String) (names : List String) : List Cond := (Bundle.ownAtoms own ic X names).filter vx_no
/-- a word that the tables alone decide, or a good one -/
def vx_ot (w : Cond) : Bool := w.onTables || goodWord w
theorem vx_ot_at {args a' : Array Value} {s U : State} {w : Cond} (hW : s.WarmedH U.vm) (hvm : s.vm = U.vm) (hg : vx_ot w = true) (h : w.before args s = true) : w.before a' U = true := by
  simp only [vx_ot, Bool.or_eq_true] at hg
  rcases hg with hg | hg
  · exact va_tabs hg hvm h
  · exact word_at hW (good_of_word hg) h
/-- a list's words: the good ones out of the method's own list, the others by premises of their own -/
theorem vx_hat {args : Array Value} {s : State} {L B : List Cond} (h1 : ∀ w ∈ L.filter goodWord, w.before args s = true) (h2 : ∀ w ∈ L.filter (fun w => !goodWord w), w ∈ B) (h3 : ∀ w ∈ B, w.before args s = true) : ∀ w ∈ L, w.before args s = true := by
  intro w hw
  by_cases g : goodWord w = true
  · exact h1 w (List.mem_filter.mpr ⟨hw, g⟩)
  · refine h3 w (h2 w (List.mem_filter.mpr ⟨hw, ?_⟩))
    show (!goodWord w) = true
    cases hgw : goodWord w
    · rfl
    · exact absurd hgw g
theorem vx_c {args : Array Value} {s : State} {w : Cond} {B : List Cond} (h : w.before args s = true) (t : ∀ w ∈ B, w.before args s = true) : ∀ w' ∈ w :: B, w'.before args s = true := fun w' h' => (List.mem_cons.mp h').elim (fun e => by rw [e]; exact h) (t w')
theorem vx_n {args : Array Value} {s : State} : ∀ w ∈ ([] : List Cond), w.before args s = true := fun _ h => nomatch h
theorem vx_own {args : Array Value} {s : State} {L : List Cond} (h1 : ∀ w ∈ L.filter vx_no, w.before args s = true)
    (hU : (Cond.isRef (.static Bundle.tN "UNASSIGNED_STACK" Bundle.steD)).before args s = true) (hN : (Cond.isRef (.static Bundle.tN "SUPPRESSED_SENTINEL" Bundle.listD)).before args s = true)
    (lU : (Cond.laysStatic Bundle.tN "UNASSIGNED_STACK" Bundle.steD).before args s = true) (lN : (Cond.laysStatic Bundle.tN "SUPPRESSED_SENTINEL" Bundle.listD).before args s = true) : ∀ w ∈ L, w.before args s = true := by
  intro w hw
  by_cases e1 : w = .isRef (.static Bundle.tN "UNASSIGNED_STACK" Bundle.steD)
  · rw [e1]; exact hU
  · by_cases e2 : w = .isRef (.static Bundle.tN "SUPPRESSED_SENTINEL" Bundle.listD)
    · rw [e2]; exact hN
    · by_cases e3 : w = .laysStatic Bundle.tN "UNASSIGNED_STACK" Bundle.steD
      · rw [e3]; exact lU
      · by_cases e4 : w = .laysStatic Bundle.tN "SUPPRESSED_SENTINEL" Bundle.listD
        · rw [e4]; exact lN
        · exact h1 w (List.mem_filter.mpr ⟨hw, by unfold vx_no; rw [decide_eq_true e1, decide_eq_true e2, decide_eq_true e3, decide_eq_true e4]; rfl⟩)
/-- where a static field lies, its class's statics cell in H -/
def vx_L (C n d : String) (A : Nat → Prop) (U : State) (H : Heap) : Prop := ∃ (c : ClassId) (k : Class) (i : Nat) (f : Field) (a : Nat) (cell : Cell), U.vm.findClass C = some c ∧ U.fieldFound? C n d = some (c, k, i, f) ∧ f.isStatic = true ∧ k.statics = some a ∧ H[a]? = some cell ∧ cell.vm.isStatics = true ∧ cell.cls = c ∧ f.slot < cell.slots.size ∧ k.staticTypes[f.slot]? = some f.type ∧ ¬ A a
theorem vx_L.moved {C n d : String} {A : Nat → Prop} {u U : State} {H : Heap} (hvm : u.vm.Alike U.vm) (h : vx_L C n d A u H) : vx_L C n d A U H := by
  obtain ⟨c, k, i, f, a, cell, h1, h2, h3, h4, h5, h6, h7, h8, h9, h10⟩ := h
  obtain ⟨k', hi', he⟩ := State.fieldFound?_setVm hvm h2
  exact ⟨c, k', i, f, a, cell, by rw [hvm.findClass]; exact h1, hi', h3, by rw [he]; exact h4, h5, h6, h7, h8, by rw [he]; exact h9, h10⟩
theorem vx_L.kept {C n d : String} {A : Nat → Prop} {U : State} {H H1 : Heap} (h : vx_L C n d A U H) (hq : ∀ a : Nat, a < H.size → ¬ A a → H1[a]? = H[a]?) : vx_L C n d A U H1 := by
  obtain ⟨c, k, i, f, a, cell, h1, h2, h3, h4, h5, h6, h7, h8, h9, h10⟩ := h
  exact ⟨c, k, i, f, a, cell, h1, h2, h3, h4, by rw [hq a (Array.getElem?_eq_some_iff.mp h5).1 h10]; exact h5, h6, h7, h8, h9, h10⟩
theorem vx_L.narrow {C n d : String} {A B : Nat → Prop} {U : State} {H : Heap} (h : vx_L C n d A U H) (hAB : ∀ q, B q → A q) : vx_L C n d B U H := by
  obtain ⟨c, k, i, f, a, cell, h1, h2, h3, h4, h5, h6, h7, h8, h9, h10⟩ := h
  exact ⟨c, k, i, f, a, cell, h1, h2, h3, h4, h5, h6, h7, h8, h9, fun z => h10 (hAB _ z)⟩
theorem vx_L.word {C n d : String} {A : Nat → Prop} {s : State} {args : Array Value} (h : vx_L C n d A s s.heap) : (Cond.laysStatic C n d).before args s = true := by
  obtain ⟨c, k, i, f, a, cell, h1, h2, h3, h4, h5, h6, h7, h8, h9, -⟩ := h
  show (Cond.laysStatic C n d).holds args s none s [] = true
  exact Cond.laysStatic_of h1 h2 h3 h4 h5 h6 h7 h8 h9
/-- .. and what it holds: null or some reference -/
def vx_Zq (C n d : String) (A : Nat → Prop) (U : State) (H : Heap) : Prop := va_Zq C n d A U H ∧ vx_L C n d A U H
theorem vx_Zq.moved {C n d : String} {A : Nat → Prop} {u U : State} {H : Heap} (hvm : u.vm.Alike U.vm) (h : vx_Zq C n d A u H) : vx_Zq C n d A U H := ⟨va_Zq.moved hvm h.1, vx_L.moved hvm h.2⟩
theorem vx_Zq.kept {C n d : String} {A : Nat → Prop} {U : State} {H H1 : Heap} (h : vx_Zq C n d A U H) (hq : ∀ a : Nat, a < H.size → ¬ A a → H1[a]? = H[a]?) : vx_Zq C n d A U H1 := ⟨va_Zq.kept h.1 hq, vx_L.kept h.2 hq⟩
theorem vx_Zq.narrow {C n d : String} {A B : Nat → Prop} {U : State} {H : Heap} (h : vx_Zq C n d A U H) (hAB : ∀ q, B q → A q) : vx_Zq C n d B U H := ⟨va_Zq.narrow h.1 hAB, vx_L.narrow h.2 hAB⟩
theorem vx_Zqof {args : Array Value} {s : State} {C n d : String} {A : Nat → Prop} (hl : (Cond.laysStatic C n d).before args s = true) (hini : (Cond.initialized C).before args s = true) (h : (Cond.isRef (.static C n d)).before args s = true) (hA : ∀ a : Nat, a < s.heap.size → ¬ A a) : vx_Zq C n d A s s.heap := by
  refine ⟨va_Zqof hl hini h hA, ?_⟩
  obtain ⟨c, k, i, f, a, cell, h1, h2, h3, h4, h5, h6, h7, h8, h9⟩ := Cond.laysStatic_spec hl
  exact ⟨c, k, i, f, a, cell, h1, h2, h3, h4, h5, h6, h7, h8, h9, hA a (Array.getElem?_eq_some_iff.mp h5).1⟩
theorem vx_isRef {C n d : String} {v : Value} {A : Nat → Prop} {s : State} {args : Array Value} (h : va_Z C n d v A s s.heap) (hv : v.isRef = true) : (Cond.isRef (.static C n d)).before args s = true := by
  obtain ⟨cf, kf, fi, f, a, cell, h1, h2, h3, h4, h5, h6, h7, -⟩ := h
  have he : (Term.static C n d).eval args s none [] s = some v := by
    simp [Term.eval, State.fieldNamed?, h1, h2, h4, h5, h6, h7]
  simp only [Cond.before, Cond.holds, Cond.value, he]
  cases v <;> simp_all [Value.isRef]
theorem vx_isRefq {C n d : String} {A : Nat → Prop} {s : State} {args : Array Value} (h : va_Zq C n d A s s.heap) : (Cond.isRef (.static C n d)).before args s = true := by
  rcases h with h | ⟨t, h⟩
  · exact vx_isRef h rfl
  · exact vx_isRef h rfl
/-- the same frame, seen from here: as if the method were called anew in this heap -/
theorem vx_rebase {T : State} (X : Stand p l e R s m args below meth c T locs cells slots) {R' : Room} (hf : R'.frames ≤ R.frames) (hl : R'.locals ≤ R.locals) (hc : cells + R'.cells ≤ R.cells) (hs : slots + R'.slots ≤ R.slots) :
    Stand p l e R' ((T.setVm s.vm).setFrames (.invoking m args :: below)) m args below meth c T [] 0 0 := by
  have htop : (T.setVm s.vm).topJava?.isSome := X.here.top
  have hF : ((T.setVm s.vm).setFrames (.invoking m args :: below)).frames = .invoking m args :: below := State.frames_setFrames _ (State.cur_lt_of_top htop)
  obtain ⟨g₀, hg0⟩ := Option.isSome_iff_exists.mp htop
  obtain ⟨r, hr⟩ := State.topJava?_eq_some.mp hg0
  have hl9 : e.platform.stackLimits (T.setVm s.vm).me = e.platform.stackLimits s.me := X.limits
  have hb9 : (T.setVm s.vm).me.stackBytes = s.me.stackBytes := X.bytes
  refine ⟨X.admits, X.cas, X.clock, hF, ?_, X.hears, X.method, X.code, X.here, X.tail, X.warmed, ?_, ?_, ?_⟩
  · have h := X.room
    have hU : ((T.setVm s.vm).setFrames (.invoking m args :: below)).localsInUse = s.localsInUse := by
      rw [State.localsInUse_invoking hF (meth := meth) (c := c) X.method X.code, State.localsInUse_invoking X.frames X.method X.code]
    simp only [State.hasRoom, Bool.and_eq_true, decide_eq_true_eq] at h ⊢
    obtain ⟨⟨⟨⟨h1, h2, h3, h4, h5, h6⟩, h7⟩, h8⟩, h9⟩ := h
    rw [X.frames, List.length_cons] at h2 h3
    have q1 := X.heapSize
    have q2 := X.used
    simp only [hF, hU, List.length_cons, State.stackLimits_setFrames, State.stackBytes_setFrames, hl9, hb9]
    refine ⟨⟨⟨⟨by omega, by omega, by omega, by omega, by omega, h6⟩, ?_⟩, ?_⟩, X.book⟩
    · show T.heap.size + R'.cells ≤ e.platform.maxCells
      omega
    · show T.slotsUsed + R'.slots ≤ e.platform.maxSlots
      omega
  · rw [State.stackLimits_setFrames]; rfl
  · rw [State.stackBytes_setFrames]; rfl
  · refine ⟨?_, Nat.le_refl _, Nat.le_refl _, ?_, ?_, fun a c9 h9 => ⟨c9, h9, rfl, rfl, fun _ _ => rfl⟩⟩
    · obtain ⟨t, ht, -⟩ := State.frames_cons hr
      show T.setVm s.vm = { ((T.setVm s.vm).setFrames (.invoking m args :: below)).setFrames (T.setVm s.vm).frames with heap := T.heap, slotsUsed := T.slotsUsed }
      rw [State.setFrames_setFrames, State.setFrames_self ht]
      rfl
    · show T.slotsUsed = T.slotsUsed + ((T.heap.toList.drop T.heap.size).map (·.slots.size)).sum
      rw [List.drop_eq_nil_of_le (Nat.le_of_eq Array.length_toList)]
      rfl
    · show ((T.heap.toList.drop T.heap.size).map (·.slots.size)).sum ≤ 0
      rw [List.drop_eq_nil_of_le (Nat.le_of_eq Array.length_toList)]
      exact Nat.le_refl _
/-- 'throw new E()': new; dup; invokespecial; athrow -/
theorem vx_throw0 {cc : ByteArray} {pc : Nat} (hexec : p.tables.exec = Jvm.exec) (hb : c.code = cc) (hl : l.stackTraces = false) {own cls : String} {names : List String} {ik ic mc ms : Nat} {A : Nat → Prop}
    (hown : s.vm.findClass own = some m.cls) (hcls : Bundle.fit cls = true) (hnames : ∀ n ∈ names, Bundle.fit n = true)
    (hk : (Cond.classLink own ik cls).before args s = true) (hini : (Cond.initialized cls).before args s = true) (hat : ∀ w ∈ vx_at0 own ic cls names, w.before args s = true)
    (hgood : ∀ w ∈ Cond.classLink own ik cls :: Cond.initialized cls :: vx_at0 own ic cls names, vx_ot w = true)
    (hU : vx_Zq Bundle.tN "UNASSIGNED_STACK" Bundle.steD A s s.heap) (hN : vx_Zq Bundle.tN "SUPPRESSED_SENTINEL" Bundle.listD A s s.heap) (hS : va_S A s.heap H locs) (hsize : ls.size = c.maxLocals)
    (d0 : decode cc pc = .ok (.new ik, 3)) (d3 : decode cc (pc + 3) = .ok (.dup, 1)) (d4 : decode cc (pc + 4) = .ok (.invokespecial ic, 3)) (d7 : decode cc (pc + 7) = .ok (.athrow, 1))
    (hout : ∀ x ∈ c.exceptionTable.toList, covers x (pc + 7) = false)
    (hRframes : names.length + 3 < R.frames) (hRlocals : (rest.map fun v => v.category).sum + (13 * (names.length + 1) + 42) ≤ R.locals) (hRcells : cells + 1 ≤ R.cells) (hRslots : slots + 6 ≤ R.slots) (hlocks : meth.locks = false)
    (hx : ∀ t : State, s.vm.Alike t.vm → H.size ≤ t.heap.size → (∀ q : Nat, q < H.size → t.heap[q]? = H[q]?) → XC cls s t)
    (hf : ∀ z ∈ locs, free z.base) (hc : cells + 1 ≤ mc) (hs : slots + 6 ≤ ms) :
    W p l e R s m args below meth c H locs cells slots (vx_MQ below Qc XC args s mc ms free) (F0 m pc ls rest) := by
  intro T hT X
  have htr : e.platform.stackTraces = false := (show e.platform.stackTraces = l.stackTraces by rw [X.admits.platform]).trans hl
  have Y := vx_rebase X (R' := { frames := R.frames, locals := R.locals, cells := 1, slots := 6 }) (Nat.le_refl _) (Nat.le_refl _) hRcells hRslots
  obtain ⟨s', hA⟩ : ∃ z, z = (T.setVm s.vm).setFrames (.invoking m args :: below) := ⟨_, rfl⟩
  rw [← hA] at Y
  have hvm : s'.vm = s.vm := by rw [hA]; rfl
  have hhp : s'.heap = H := by rw [hA]; exact hT
  have hW0 : s.WarmedH s'.vm := by rw [hvm]; exact State.WarmedH.refl s
  have hat' : ∀ w ∈ vx_at0 own ic cls names, w.before args s' = true := fun w hw => vx_ot_at hW0 hvm.symm (hgood w (List.mem_cons_of_mem _ (List.mem_cons_of_mem _ hw))) (hat w hw)
  have hk' : (Cond.classLink own ik cls).before args s' = true := vx_ot_at hW0 hvm.symm (hgood _ List.mem_cons_self) hk
  have hini' : (Cond.initialized cls).before args s' = true := vx_ot_at hW0 hvm.symm (hgood _ (List.mem_cons_of_mem _ List.mem_cons_self)) hini
  have hU' : vx_Zq Bundle.tN "UNASSIGNED_STACK" Bundle.steD A s' s'.heap := by rw [hhp]; exact vx_Zq.moved hW0.alike (hU.kept hS.2.1)
  have hN' : vx_Zq Bundle.tN "SUPPRESSED_SENTINEL" Bundle.listD A s' s'.heap := by rw [hhp]; exact vx_Zq.moved hW0.alike (hN.kept hS.2.1)
  have h : ∀ w ∈ Bundle.ownAtoms0 own ic cls names, w.before args s' = true := vx_own hat' (vx_isRefq hU'.1) (vx_isRefq hN'.1) hU'.2.word hN'.2.word
  have hown' : s'.vm.findClass own = some m.cls := by rw [hvm]; exact hown
  have hins : (Cond.instantiable cls 6).before args s' = true := h _ (by simp [Bundle.ownAtoms0])
  obtain ⟨vm₁, cX, kX, hfX, hkX, -, -, X₁, st1⟩ := Y.newCold hexec (own := own) (C := cls) (index := ik) (n := 6) hown' hk' hins hini'
    (g := F0 m pc ls rest) rfl (by rw [hb]; exact d0) (Nat.le_refl _) (Nat.le_refl _)
  generalize hT1 : (T.setVm vm₁).pushCell { cls := cX, slots := kX.instanceTypes.map defaultValue, vm := .none } = T1 at X₁ st1
  have hcat : (Value.ref T.heap.size).category = 1 := rfl
  have hcellA : T1.heap[T.heap.size]? = some (freshCell cX kX) := by rw [← hT1]; exact State.heap_pushCell_size _ _
  have d3' : decode c.code (pc + 3) = .ok (.dup, 1) := by rw [hb]; exact d3
  obtain ⟨U, hsteps, hrun, hend, hW, hsame, ce, hce, hO⟩ := X₁.ctorThrow0 hexec htr (own := own) (cls := cls) (names := names) (ic := ic) hown' hcls hnames h (fun x hx => nomatch hx) hfX hkX hcellA (by rw [hhp, hT]; exact Nat.le_refl _)
    (g := { method := m, pc := pc + 4, locals := ls, stack := .ref T.heap.size :: .ref T.heap.size :: rest, locked := none }) rfl hsize rfl rfl (rest := rest) rfl
    (by rw [hb]; exact d4) (by rw [hb]; exact d7) hout hRframes (by simp only [List.map_cons, List.sum_cons, hcat]; omega) hlocks
  obtain ⟨f1, f2⟩ := vx_frame hsame
  rw [hhp] at f1 f2
  have hWs : s.WarmedH U.vm := State.WarmedH.trans hW0 hW
  have hcl : s.vm.findClass cls = some ce.cls := by
    have h9 := hO.cls
    rw [hvm] at h9
    exact h9
  have hall : s.sameButNew ({ U with vm := s.vm } : State) locs mc ms := by
    subst hA
    obtain ⟨e1, e2⟩ := hsame
    rw [State.setFrames_setFrames] at e1
    have h2 : (T.setVm s.vm).sameButNew ({ U with vm := s.vm } : State) [] (0 + 1) (0 + 6) := ⟨e1, e2⟩
    have h3 := X.same.trans h2
    rw [List.append_nil] at h3
    exact h3.mono hc hs
  refine ⟨U, ?_, .threw T.heap.size, hrun, hend, Or.inr ⟨T.heap.size, rfl, cls, ce, locs, hx U hWs.alike f1 (fun q hq => f2 q hq (fun z hz => nomatch hz)), hce, hO.vm, hcl, hWs, hall, hf⟩⟩
  refine st1 _ ?_
  show Steps p.tables e below (T1.setTop { method := m, pc := pc + 3, locals := ls, stack := .ref T.heap.size :: rest, locked := none }) _
  jvm_step X₁.here [X₁.here.top, hexec, d3', Value.category]
  exact hsteps
/-- 'throw new E("text")': new; dup; ldc; invokespecial; athrow -/
theorem vx_throwS {cc : ByteArray} {pc : Nat} (hexec : p.tables.exec = Jvm.exec) (hb : c.code = cc) (hl : l.stackTraces = false) {own cls text : String} {names : List String} {ik is ic mc ms sa : Nat} {A : Nat → Prop}
    (hown : s.vm.findClass own = some m.cls) (hcls : Bundle.fit cls = true) (hnames : ∀ n ∈ names, Bundle.fit n = true)
    (hk : (Cond.classLink own ik cls).before args s = true) (hini : (Cond.initialized cls).before args s = true) (hstr : vk_R own is text sa s) (hat : ∀ w ∈ vx_atS own ic cls names, w.before args s = true)
    (hgood : ∀ w ∈ Cond.classLink own ik cls :: Cond.initialized cls :: vx_atS own ic cls names, vx_ot w = true)
    (hU : vx_Zq Bundle.tN "UNASSIGNED_STACK" Bundle.steD A s s.heap) (hN : vx_Zq Bundle.tN "SUPPRESSED_SENTINEL" Bundle.listD A s s.heap) (hS : va_S A s.heap H locs) (hsize : ls.size = c.maxLocals)
    (d0 : decode cc pc = .ok (.new ik, 3)) (d3 : decode cc (pc + 3) = .ok (.dup, 1)) (d4 : decode cc (pc + 4) = .ok (.ldc is, 2)) (d6 : decode cc (pc + 6) = .ok (.invokespecial ic, 3)) (d9 : decode cc (pc + 9) = .ok (.athrow, 1))
    (hout : ∀ x ∈ c.exceptionTable.toList, covers x (pc + 9) = false)
    (hRframes : names.length + 3 < R.frames) (hRlocals : (rest.map fun v => v.category).sum + (13 * (names.length + 1) + 43) ≤ R.locals) (hRcells : cells + 1 ≤ R.cells) (hRslots : slots + 6 ≤ R.slots) (hlocks : meth.locks = false)
    (hx : ∀ t : State, s.vm.Alike t.vm → H.size ≤ t.heap.size → (∀ q : Nat, q < H.size → t.heap[q]? = H[q]?) → XC cls s t)
    (hf : ∀ z ∈ locs, free z.base) (hc : cells + 1 ≤ mc) (hs : slots + 6 ≤ ms) :
    W p l e R s m args below meth c H locs cells slots (vx_MQ below Qc XC args s mc ms free) (F0 m pc ls rest) := by
  intro T hT X
  have htr : e.platform.stackTraces = false := (show e.platform.stackTraces = l.stackTraces by rw [X.admits.platform]).trans hl
  have Y := vx_rebase X (R' := { frames := R.frames, locals := R.locals, cells := 1, slots := 6 }) (Nat.le_refl _) (Nat.le_refl _) hRcells hRslots
  obtain ⟨s', hA⟩ : ∃ z, z = (T.setVm s.vm).setFrames (.invoking m args :: below) := ⟨_, rfl⟩
  rw [← hA] at Y
  have hvm : s'.vm = s.vm := by rw [hA]; rfl
  have hhp : s'.heap = H := by rw [hA]; exact hT
  have hW0 : s.WarmedH s'.vm := by rw [hvm]; exact State.WarmedH.refl s
  have hat' : ∀ w ∈ vx_atS own ic cls names, w.before args s' = true := fun w hw => vx_ot_at hW0 hvm.symm (hgood w (List.mem_cons_of_mem _ (List.mem_cons_of_mem _ hw))) (hat w hw)
  have hk' : (Cond.classLink own ik cls).before args s' = true := vx_ot_at hW0 hvm.symm (hgood _ List.mem_cons_self) hk
  have hini' : (Cond.initialized cls).before args s' = true := vx_ot_at hW0 hvm.symm (hgood _ (List.mem_cons_of_mem _ List.mem_cons_self)) hini
  have hU' : vx_Zq Bundle.tN "UNASSIGNED_STACK" Bundle.steD A s' s'.heap := by rw [hhp]; exact vx_Zq.moved hW0.alike (hU.kept hS.2.1)
  have hN' : vx_Zq Bundle.tN "SUPPRESSED_SENTINEL" Bundle.listD A s' s'.heap := by rw [hhp]; exact vx_Zq.moved hW0.alike (hN.kept hS.2.1)
  have h : ∀ w ∈ Bundle.ownAtoms own ic cls names, w.before args s' = true := vx_own hat' (vx_isRefq hU'.1) (vx_isRefq hN'.1) hU'.2.word hN'.2.word
  have hown' : s'.vm.findClass own = some m.cls := by rw [hvm]; exact hown
  have hins : (Cond.instantiable cls 6).before args s' = true := h _ (by simp [Bundle.ownAtoms])
  obtain ⟨vm₁, cX, kX, hfX, hkX, -, -, X₁, st1⟩ := Y.newCold hexec (own := own) (C := cls) (index := ik) (n := 6) hown' hk' hins hini'
    (g := F0 m pc ls rest) rfl (by rw [hb]; exact d0) (Nat.le_refl _) (Nat.le_refl _)
  generalize hT1 : (T.setVm vm₁).pushCell { cls := cX, slots := kX.instanceTypes.map defaultValue, vm := .none } = T1 at X₁ st1
  have hcat : (Value.ref T.heap.size).category = 1 := rfl
  have hcellA : T1.heap[T.heap.size]? = some (freshCell cX kX) := by rw [← hT1]; exact State.heap_pushCell_size _ _
  have d3' : decode c.code (pc + 3) = .ok (.dup, 1) := by rw [hb]; exact d3
  have d4' : decode c.code (pc + 4) = .ok (.ldc is, 2) := by rw [hb]; exact d4
  have hstr' : vk_R own is text sa s' := vk_R.warm hW0 hstr
  obtain ⟨U, hsteps, hrun, hend, hW, hsame, ce, hce, hO⟩ := X₁.ctorThrowS hexec htr (own := own) (cls := cls) (names := names) (ic := ic) hown' hcls hnames h (fun x hx => nomatch hx) hfX hkX hcellA (by rw [hhp, hT]; exact Nat.le_refl _) (msg := .ref sa) rfl
    (g := { method := m, pc := pc + 6, locals := ls, stack := .ref sa :: .ref T.heap.size :: .ref T.heap.size :: rest, locked := none }) rfl hsize rfl rfl (rest := rest) rfl
    (by rw [hb]; exact d6) (by rw [hb]; exact d9) hout hRframes (by simp only [List.map_cons, List.sum_cons, hcat]; omega) hlocks
  obtain ⟨f1, f2⟩ := vx_frame hsame
  rw [hhp] at f1 f2
  have hWs : s.WarmedH U.vm := State.WarmedH.trans hW0 hW
  have hcl : s.vm.findClass cls = some ce.cls := by
    have h9 := hO.cls
    rw [hvm] at h9
    exact h9
  have hall : s.sameButNew ({ U with vm := s.vm } : State) locs mc ms := by
    subst hA
    obtain ⟨e1, e2⟩ := hsame
    rw [State.setFrames_setFrames] at e1
    have h2 : (T.setVm s.vm).sameButNew ({ U with vm := s.vm } : State) [] (0 + 1) (0 + 6) := ⟨e1, e2⟩
    have h3 := X.same.trans h2
    rw [List.append_nil] at h3
    exact h3.mono hc hs
  refine ⟨U, ?_, .threw T.heap.size, hrun, hend, Or.inr ⟨T.heap.size, rfl, cls, ce, locs, hx U hWs.alike f1 (fun q hq => f2 q hq (fun z hz => nomatch hz)), hce, hO.vm, hcl, hWs, hall, hf⟩⟩
  refine st1 _ ?_
  show Steps p.tables e below (T1.setTop { method := m, pc := pc + 3, locals := ls, stack := .ref T.heap.size :: rest, locked := none }) _
  jvm_step X₁.here [X₁.here.top, hexec, d3', Value.category]
  exact X₁.ldcString hexec (own := own) (text := text) (index := is) (a := sa) hown' hstr'.1 hstr'.2
    (g := { method := m, pc := pc + 4, locals := ls, stack := .ref T.heap.size :: .ref T.heap.size :: rest, locked := none }) rfl d4' _ hsteps
/-- 'throw new E("text")', the text by a wide index -/
theorem vx_throwSW {cc : ByteArray} {pc : Nat} (hexec : p.tables.exec = Jvm.exec) (hb : c.code = cc) (hl : l.stackTraces = false) {own cls text : String} {names : List String} {ik is ic mc ms sa : Nat} {A : Nat → Prop}
    (hown : s.vm.findClass own = some m.cls) (hcls : Bundle.fit cls = true) (hnames : ∀ n ∈ names, Bundle.fit n = true)
    (hk : (Cond.classLink own ik cls).before args s = true) (hini : (Cond.initialized cls).before args s = true) (hstr : vk_R own is text sa s) (hat : ∀ w ∈ vx_atS own ic cls names, w.before args s = true)
    (hgood : ∀ w ∈ Cond.classLink own ik cls :: Cond.initialized cls :: vx_atS own ic cls names, vx_ot w = true)
    (hU : vx_Zq Bundle.tN "UNASSIGNED_STACK" Bundle.steD A s s.heap) (hN : vx_Zq Bundle.tN "SUPPRESSED_SENTINEL" Bundle.listD A s s.heap) (hS : va_S A s.heap H locs) (hsize : ls.size = c.maxLocals)
    (d0 : decode cc pc = .ok (.new ik, 3)) (d3 : decode cc (pc + 3) = .ok (.dup, 1)) (d4 : decode cc (pc + 4) = .ok (.ldc_w is, 3)) (d7 : decode cc (pc + 7) = .ok (.invokespecial ic, 3)) (d10 : decode cc (pc + 10) = .ok (.athrow, 1))
    (hout : ∀ x ∈ c.exceptionTable.toList, covers x (pc + 10) = false)
    (hRframes : names.length + 3 < R.frames) (hRlocals : (rest.map fun v => v.category).sum + (13 * (names.length + 1) + 43) ≤ R.locals) (hRcells : cells + 1 ≤ R.cells) (hRslots : slots + 6 ≤ R.slots) (hlocks : meth.locks = false)
    (hx : ∀ t : State, s.vm.Alike t.vm → H.size ≤ t.heap.size → (∀ q : Nat, q < H.size → t.heap[q]? = H[q]?) → XC cls s t)
    (hf : ∀ z ∈ locs, free z.base) (hc : cells + 1 ≤ mc) (hs : slots + 6 ≤ ms) :
    W p l e R s m args below meth c H locs cells slots (vx_MQ below Qc XC args s mc ms free) (F0 m pc ls rest) := by
  intro T hT X
  have htr : e.platform.stackTraces = false := (show e.platform.stackTraces = l.stackTraces by rw [X.admits.platform]).trans hl
  have Y := vx_rebase X (R' := { frames := R.frames, locals := R.locals, cells := 1, slots := 6 }) (Nat.le_refl _) (Nat.le_refl _) hRcells hRslots
  obtain ⟨s', hA⟩ : ∃ z, z = (T.setVm s.vm).setFrames (.invoking m args :: below) := ⟨_, rfl⟩
  rw [← hA] at Y
  have hvm : s'.vm = s.vm := by rw [hA]; rfl
  have hhp : s'.heap = H := by rw [hA]; exact hT
  have hW0 : s.WarmedH s'.vm := by rw [hvm]; exact State.WarmedH.refl s
  have hat' : ∀ w ∈ vx_atS own ic cls names, w.before args s' = true := fun w hw => vx_ot_at hW0 hvm.symm (hgood w (List.mem_cons_of_mem _ (List.mem_cons_of_mem _ hw))) (hat w hw)
  have hk' : (Cond.classLink own ik cls).before args s' = true := vx_ot_at hW0 hvm.symm (hgood _ List.mem_cons_self) hk
  have hini' : (Cond.initialized cls).before args s' = true := vx_ot_at hW0 hvm.symm (hgood _ (List.mem_cons_of_mem _ List.mem_cons_self)) hini
  have hU' : vx_Zq Bundle.tN "UNASSIGNED_STACK" Bundle.steD A s' s'.heap := by rw [hhp]; exact vx_Zq.moved hW0.alike (hU.kept hS.2.1)
  have hN' : vx_Zq Bundle.tN "SUPPRESSED_SENTINEL" Bundle.listD A s' s'.heap := by rw [hhp]; exact vx_Zq.moved hW0.alike (hN.kept hS.2.1)
  have h : ∀ w ∈ Bundle.ownAtoms own ic cls names, w.before args s' = true := vx_own hat' (vx_isRefq hU'.1) (vx_isRefq hN'.1) hU'.2.word hN'.2.word
  have hown' : s'.vm.findClass own = some m.cls := by rw [hvm]; exact hown
  have hins : (Cond.instantiable cls 6).before args s' = true := h _ (by simp [Bundle.ownAtoms])
  obtain ⟨vm₁, cX, kX, hfX, hkX, -, -, X₁, st1⟩ := Y.newCold hexec (own := own) (C := cls) (index := ik) (n := 6) hown' hk' hins hini'
    (g := F0 m pc ls rest) rfl (by rw [hb]; exact d0) (Nat.le_refl _) (Nat.le_refl _)
  generalize hT1 : (T.setVm vm₁).pushCell { cls := cX, slots := kX.instanceTypes.map defaultValue, vm := .none } = T1 at X₁ st1
  have hcat : (Value.ref T.heap.size).category = 1 := rfl
  have hcellA : T1.heap[T.heap.size]? = some (freshCell cX kX) := by rw [← hT1]; exact State.heap_pushCell_size _ _
  have d3' : decode c.code (pc + 3) = .ok (.dup, 1) := by rw [hb]; exact d3
  have d4' : decode c.code (pc + 4) = .ok (.ldc_w is, 3) := by rw [hb]; exact d4
  have hstr' : vk_R own is text sa s' := vk_R.warm hW0 hstr
  obtain ⟨U, hsteps, hrun, hend, hW, hsame, ce, hce, hO⟩ := X₁.ctorThrowS hexec htr (own := own) (cls := cls) (names := names) (ic := ic) hown' hcls hnames h (fun x hx => nomatch hx) hfX hkX hcellA (by rw [hhp, hT]; exact Nat.le_refl _) (msg := .ref sa) rfl
    (g := { method := m, pc := pc + 7, locals := ls, stack := .ref sa :: .ref T.heap.size :: .ref T.heap.size :: rest, locked := none }) rfl hsize rfl rfl (rest := rest) rfl
    (by rw [hb]; exact d7) (by rw [hb]; exact d10) hout hRframes (by simp only [List.map_cons, List.sum_cons, hcat]; omega) hlocks
  obtain ⟨f1, f2⟩ := vx_frame hsame
  rw [hhp] at f1 f2
  have hWs : s.WarmedH U.vm := State.WarmedH.trans hW0 hW
  have hcl : s.vm.findClass cls = some ce.cls := by
    have h9 := hO.cls
    rw [hvm] at h9
    exact h9
  have hall : s.sameButNew ({ U with vm := s.vm } : State) locs mc ms := by
    subst hA
    obtain ⟨e1, e2⟩ := hsame
    rw [State.setFrames_setFrames] at e1
    have h2 : (T.setVm s.vm).sameButNew ({ U with vm := s.vm } : State) [] (0 + 1) (0 + 6) := ⟨e1, e2⟩
    have h3 := X.same.trans h2
    rw [List.append_nil] at h3
    exact h3.mono hc hs
  refine ⟨U, ?_, .threw T.heap.size, hrun, hend, Or.inr ⟨T.heap.size, rfl, cls, ce, locs, hx U hWs.alike f1 (fun q hq => f2 q hq (fun z hz => nomatch hz)), hce, hO.vm, hcl, hWs, hall, hf⟩⟩
  refine st1 _ ?_
  show Steps p.tables e below (T1.setTop { method := m, pc := pc + 3, locals := ls, stack := .ref T.heap.size :: rest, locked := none }) _
  jvm_step X₁.here [X₁.here.top, hexec, d3', Value.category]
  exact X₁.ldcStringW hexec (own := own) (text := text) (index := is) (a := sa) hown' hstr'.1 hstr'.2
    (g := { method := m, pc := pc + 4, locals := ls, stack := .ref T.heap.size :: .ref T.heap.size :: rest, locked := none }) rfl d4' _ hsteps
end Ends
section Bodies
variable {l : Launch}
theorem vx_ofW {y : MethodName} {ws ws' : List Cond} {rm : Room} {Pc : Array Value → State → Prop} {Qc : Array Value → State → Outcome → State → Prop} {XC : String → State → State → Prop} {mc ms : Nat} {free : Addr → Prop} {cc : ByteArray} {maxL : Nat} {ret : Option FieldType}
    (hy : plainName y.cls = true) (hw : ws = Cond.code y cc maxL ret :: ws')
    (body : ∀ p e s m args below meth c s₁, BodyLoose p l y (headSpec ws rm) cc maxL ret e s m args below meth c s₁ → c.maxLocals = maxL → (∀ x ∈ c.exceptionTable.toList, False) → Pc args s →
      W p l e (headSpec ws rm).room s m args below meth c s.heap [] 0 0 (vx_MQ below Qc XC args s mc ms free) (entryFrame m args maxL)) : vx_Met l y ws rm Pc Qc XC mc ms free := by
  refine MetFree.of_bodyS (code := cc) (maxLocals := maxL) (ret := ret) hy ?_ ?_
  · intro args s m h hn
    obtain ⟨meth, c, h1, h2, h3, h4, h5, h6, -, -⟩ := Cond.code_spec hn (atoms_spec (ws := ws) h _ (by rw [hw]; exact List.mem_cons_self))
    exact ⟨meth, c, h1, h2, h3, h4, h5, h6⟩
  · intro p e s m args below meth c s₁ B hml hP _
    have hh0 : s₁.heap = s.heap := by rw [B.state]; rfl
    have ht : ∀ x ∈ c.exceptionTable.toList, False := by
      obtain ⟨meth9, c9, h1, h2, -, -, -, -, h7, -⟩ := Cond.code_spec B.named (atoms_spec (ws := ws) B.pre _ (by rw [hw]; exact List.mem_cons_self))
      cases Option.some.inj (h1.symm.trans B.method)
      cases Option.some.inj (h2.symm.trans (Stand.of_body B).code)
      intro x hx
      rw [Array.isEmpty_iff.mp h7] at hx
      cases hx
    obtain ⟨t, a1, o, b1, b2, b3⟩ := body p e s m args below meth c s₁ B hml ht hP s₁ hh0 (Stand.of_body B)
    exact ⟨t, o, a1, b1, b2, b3⟩
/-- the table of a body with handlers -/
theorem vx_table {p : Program} {x y : MethodName} {S : Spec} {cc bytes : ByteArray} {maxL maxL' : Nat} {ret ret' : Option FieldType} {e : Env} {s s₁ : State} {m : MethodId} {args : Array Value} {below : List Frame} {meth : Method} {c : Code} {hh : List (Nat × Nat × Nat × Nat)}
    (B : BodyLoose p l y S cc maxL ret e s m args below meth c s₁) (h : (Cond.codeWith y bytes maxL' ret' hh).before args s = true) : c.exceptionTable.toList = tableOf hh := by
  obtain ⟨m9, meth9, c9, hn9, h1, h2, -, -, h6, -⟩ := Cond.codeWith_spec h
  cases Option.some.inj (hn9.symm.trans B.named)
  cases Option.some.inj (h1.symm.trans B.method)
  cases Option.some.inj (h2.symm.trans (Stand.of_body B).code)
  rw [← h6, table_eq]
end Bodies
end VXA
/-! ===== END ===== -/
/-! ===== BEGIN a static call of a method with an exception table ===== -/
section VXS
variable {p : Program} {l : Launch} {e : Env} {R : Room} {s : State} {m : MethodId} {args : Array Value} {below : List Frame} {meth : Method} {c : Code} {T : State} {H : Heap} {locs : List Loc} {cells slots : Nat}
abbrev vx_CSW (R : Room) (s : State) (args : Array Value) (own : String) (index : Nat) (y : MethodName) (bytes : ByteArray) (maxL : Nat) (ret : Option FieldType) (hh : List (Nat × Nat × Nat × Nat)) (ws : List Cond) (rm : Room) (mc ms n : Nat) : Prop :=
  (rm.cells = mc ∧ rm.slots = ms ∧ rm.frames + 1 ≤ R.frames ∧ 8 + (maxL + 11) + rm.locals ≤ R.locals ∧ (∀ w ∈ ws, ∀ (a' : Array Value) (U : State), s.WarmedH U.vm → w.before a' U = true) ∧ Cond.codeWith y bytes maxL ret hh ∈ ws) ∧
  (Cond.codeWith y bytes maxL ret hh).before args s = true ∧ (Cond.initialized y.cls).before args s = true ∧ (y.cls ≠ "java/lang/invoke/MethodHandle" ∧ y.cls ≠ "java/lang/invoke/VarHandle") ∧
  (∀ sig, parseMethodDescriptor y.desc = some sig → n = sig.parameters.length) ∧ (Cond.methodLink own index y).before args s = true ∧ (Cond.static y).before args s = true
theorem vx_cwSW {own : String} {index maxL mc ms : Nat} {y : MethodName} {bytes : ByteArray} {ret : Option FieldType} {hh : List (Nat × Nat × Nat × Nat)} {Ts ws ws' : List Cond} {rm : Room} (n : Nat) (ht : ∀ w ∈ Ts, w.before args s = true) (hT : GoodIn Ts (va_wsS own index y ws)) (hw : ws = Cond.codeWith y bytes maxL ret hh :: ws') (hrc : rm.cells = mc) (hrs : rm.slots = ms)
    (hd : y.cls ≠ "java/lang/invoke/MethodHandle" ∧ y.cls ≠ "java/lang/invoke/VarHandle" ∧ (parseMethodDescriptor y.desc).map (fun d => d.parameters.length) = some n) (hR : rm.frames + 1 ≤ R.frames ∧ 8 + (maxL + 11) + rm.locals ≤ R.locals) :
    vx_CSW R s args own index y bytes maxL ret hh ws rm mc ms n := by
  have ok : ∀ w ∈ va_wsS own index y ws, w.before args s = true := fun w h => ht w (hT w h).1
  have hG : GoodIn Ts ws := fun w h => hT w (by unfold va_wsS; exact List.mem_append_right _ h)
  have hc : Cond.codeWith y bytes maxL ret hh ∈ ws := by rw [hw]; exact List.mem_cons_self
  refine ⟨⟨hrc, hrs, hR.1, hR.2, pay_in ht hG, hc⟩, ht _ (hG _ hc).1, ok _ (by simp [va_wsS]), ⟨hd.1, hd.2.1⟩, fun sig h => ?_, ok _ (by simp [va_wsS]), ok _ (by simp [va_wsS])⟩
  have h2 := hd.2.2
  rw [h] at h2
  exact (Option.some.inj h2).symm
theorem vx_callSW (X : Stand p l e R s m args below meth c T locs cells slots) (hexec : p.tables.exec = Jvm.exec) {own : String} {index : Nat} {y : MethodName} {bytes : ByteArray} {maxL : Nat} {ret : Option FieldType} {hh : List (Nat × Nat × Nat × Nat)}
    (hown : s.vm.findClass own = some m.cls) (hlink : (Cond.methodLink own index y).before args s = true) (hstat : (Cond.static y).before args s = true) (hinit : (Cond.initialized y.cls).before args s = true)
    (hcode : (Cond.codeWith y bytes maxL ret hh).before args s = true) (hy : y.cls ≠ "java/lang/invoke/MethodHandle" ∧ y.cls ≠ "java/lang/invoke/VarHandle")
    {W9 : Nat} {Pre : Pt → Array Value → Prop} {Post : Pt → Array Value → Option Value → Pt → Prop} (hK : Back l R p e below s args y 3 W9 Pre Post)
    {g : JFrame} (hg : g.method = m) (hsize : g.locals.size = c.maxLocals) {argsL rest : List Value} (hlen : ∀ sig, parseMethodDescriptor y.desc = some sig → argsL.length = sig.parameters.length)
    (hstack : g.stack = argsL.reverse ++ rest) (hW : 2 * g.monitorRoom + (rest.map fun v => v.category).sum ≤ W9) (hdg : decode c.code g.pc = .ok (.invokestatic index, 3))
    (hpre : ∀ vm₁, s.WarmedH vm₁ → Pre ⟨T.setVm vm₁, locs, cells, slots⟩ argsL.toArray) :
    ∃ (v : Option Value) (vm₁ : Vm) (B : Pt), s.WarmedH vm₁ ∧ Stand p l e R s m args below meth c B.U B.locs B.cells B.slots ∧ Post ⟨T.setVm vm₁, locs, cells, slots⟩ argsL.toArray v B ∧
      ∀ target, Steps p.tables e below (B.U.setTop { g with pc := g.pc + 3, stack := v.toList ++ rest }) target → Steps p.tables e below (T.setTop g) target := by
  obtain ⟨mk, methM, cM, hnamed, hmethM, -, -, -, -, -, -, hsigM⟩ := Cond.codeWith_spec hcode
  have hstatic : methM.isStatic = true := Cond.static_spec hnamed hmethM hstat
  obtain ⟨kP, hkP, -⟩ := className_of_methodNamed hnamed
  have hinitP : kP.init = .initialized := Cond.initialized_spec (findClass_of_methodNamed hnamed) hkP hinit
  obtain ⟨vm₁, X₁, hstep₁⟩ := X.invokestatic hexec hown hlink hnamed hmethM hstatic hkP hinitP hy (g := g) hg (argsL := argsL) (rest := rest) (hlen _ hsigM) hstack hdg
  obtain ⟨v, B, X', hpost, hsteps⟩ := hK m meth c ⟨T.setVm vm₁, locs, cells, slots⟩ { g with stack := rest } (.invokestatic index) mk argsL.toArray X₁ hg hsize hdg hW (X₁.named hnamed) (hpre vm₁ X₁.warmed)
  exact ⟨v, vm₁, B, X₁.warmed, X', hpost, fun target h => hstep₁ _ fun acts => by rw [doInvoke_state]; exact hsteps.trans h⟩
theorem vx_runSW {y : MethodName} {bytes cc : ByteArray} {maxL nL mc ms n index : Nat} {ret : Option FieldType} {hh : List (Nat × Nat × Nat × Nat)} {ws : List Cond} {rm : Room} {Pc : Array Value → State → Prop} {Qc : Array Value → State → Outcome → State → Prop} {free : Addr → Prop} {Ts : List Cond} {own : String} {As rest : List Value} {g : JFrame}
    (S : CallFix p m c cc nL s args Ts own) (hM : Met l y ws rm Pc Qc mc ms free) (cw : vx_CSW R s args own index y bytes maxL ret hh ws rm mc ms n) (hp : PreS s H Pc As)
    (hg : g.method = m) (hn : As.length = n) (hsize : g.locals.size = nL) (hstack : g.stack = As.reverse ++ rest) (hW : 2 * g.monitorRoom + (rest.map fun v => v.category).sum ≤ 8) (hdg : decode cc g.pc = .ok (.invokestatic index, 3)) (hf : cells + mc ≤ R.cells ∧ slots + ms ≤ R.slots) :
    va_Run p l e R s m args below meth c H locs cells slots mc ms g rest (Qc As.toArray) (free) := by
  obtain ⟨⟨hrc, hrs, hfr, hlo, hws, hcw⟩, hcode, hini, hy, hlen, hl, hstt⟩ := cw
  have hK : Back l R p e below s args y 3 8 (PreOf R mc ms Pc) (PostOf Qc mc ms free) := va_backW (hh := hh) (bytes := bytes) (maxL := maxL) (ret := ret) hM hp.1 hrc hrs hfr hlo hws hcw (fun a' U hW => word_at hW (Or.inl (by first | rfl | simp [Cond.onTables, Cond.keeps, Cond.steady])) hini)
  obtain ⟨hx, hb, hml, ho, -⟩ := S
  intro T hT X
  obtain ⟨v, vm₁, ⟨U', l2, c2, s2⟩, hW₁, X', ⟨g', mk, t, L, e1, e2, hq, h1, hL, h2, h3⟩, st⟩ := vx_callSW X hx (hh := hh) (bytes := bytes) (maxL := maxL) (ret := ret) ho hl hstt hini hcode hy hK hg (hsize.trans hml.symm) (argsL := As) (rest := rest) (fun sig h => hn.trans (hlen sig h)) hstack hW (by rw [hb]; exact hdg)
    (fun vm₁ hW₁ => ⟨hf.1, hf.2, hp.2 (T.setVm vm₁) hT hW₁⟩)
  dsimp only [Pt.U, Pt.locs, Pt.cells, Pt.slots] at X' e1 e2 h1 h2 h3 st
  subst h1; subst h2; subst h3
  exact ⟨v, (T.setVm vm₁).calling g' mk As.toArray, t, U', L, hT, X', hL, e1, e2, hq, st⟩
/-- a thing of a world lies in the heap -/
theorem vx_lt {D : va_G} {cl : List vw_C} {ws : va_W} {H1 : Heap} (h : va_P D cl ws H1) {k : Nat} {q : Nat × va_E} (hk : ws[k]? = some q) : q.1 < H1.size := (h k q hk).lt
end VXS
/-! ===== END ===== -/
/-! ===== BEGIN methods with a table of their own: called by a name, returning or throwing ===== -/
section VXH
/-! vx_backW, vx_callVX, vx_callSX, vx_callVW, vx_runVW, vx_runVX, vx_runSX, vx_ofWH follow the same proofs as their sisters above (Free/Laws.lean, Shelf42/LK1.lean); vx_outP calls Shelf42/NT130.lean (outThrough). -/
section
variable {l : Launch} {R : Room} {p : Program} {e : Env} {below : List Frame} {s : State} {sargs : Array Value} {y : MethodName} {len W9 : Nat}
theorem vx_backW {ws : List Cond} {rm : Room} {Pc : Array Value → State → Prop} {Qc : Array Value → State → Outcome → State → Prop} {XC : String → State → State → Prop} {mc ms : Nat} {free : Addr → Prop} {bytes : ByteArray} {maxL : Nat} {ret : Option FieldType} {hh : List (Nat × Nat × Nat × Nat)}
    (hM : vx_Met l y ws rm Pc Qc XC mc ms free) (hblind : FrameBlind Pc) (hrc : rm.cells = mc) (hrs : rm.slots = ms)
    (hframes : rm.frames + 1 ≤ R.frames) (hlocals : W9 + (maxL + 11) + rm.locals ≤ R.locals)
    (hws : ∀ w ∈ ws, ∀ a' U, s.WarmedH U.vm → w.before a' U = true) (hcode : Cond.codeWith y bytes maxL ret hh ∈ ws) (hinit : ∀ a' U, s.WarmedH U.vm → (Cond.initialized y.cls).before a' U = true) :
    vx_Back l R p e below s sargs y len W9 (PreOf R mc ms Pc) (PostOf Qc mc ms free) (vx_Post XC mc ms free) := by
  intro m meth c A g ig mk a X hg hsize hdg hW hn hp
  have h1 : (headSpec ws rm).pre.before a A.U = true := atoms_intro fun w hw => hws w hw _ _ X.warmed
  have h2 : (Cond.codeWith y bytes maxL ret hh).before a A.U = true := hws _ hcode _ _ X.warmed
  have h3 : (Cond.initialized y.cls).before a A.U = true := hinit _ _ X.warmed
  have h4 : A.cells + (headSpec ws rm).room.cells ≤ R.cells := by rw [show (headSpec ws rm).room.cells = mc from hrc]; exact hp.1
  have h5 : A.slots + (headSpec ws rm).room.slots ≤ R.slots := by rw [show (headSpec ws rm).room.slots = ms from hrs]; exact hp.2.1
  have hPc : Pc a (A.U.calling g mk a) := hblind _ _ _ _ hp.2.2
  obtain ⟨U, Ls, c0, s0⟩ := A
  dsimp only [Pt.U, Pt.locs, Pt.cells, Pt.slots] at h1 h2 h3 h4 h5 X hn hPc ⊢
  obtain ⟨m9, methY, cY, hn9, hmY, hcY, -, hlY, -⟩ := Cond.codeWith_spec h2
  cases Option.some.inj (hn9.symm.trans hn)
  obtain ⟨kY, hkY, -⟩ := className_of_methodNamed hn
  have hinitY : kY.init = .initialized := Cond.initialized_spec (findClass_of_methodNamed hn) hkY h3
  have h : At U g.method c below := by rw [hg]; exact X.here
  have hlocals9 : W9 + (maxL + 11) + (headSpec ws rm).room.locals ≤ R.locals := hlocals
  have happ : (headSpec ws rm).appliesLoose y e.platform (U.calling g mk a) = true :=
    Spec.appliesLoose_calling (g := g) h hdg hn hkY hinitY
      (X.room_calling (g := g) (R' := (headSpec ws rm).room) hsize hmY hcY hframes (by rw [hlY]; omega) h4 h5) h1
  obtain ⟨mid, hmid⟩ := h.above
  have hfr : (U.setTop g).frames = (.java g :: mid) ++ below := by rw [State.frames_setTop' g h.top, hmid]; rfl
  obtain ⟨o, s₂, hsteps, -, hend, hq⟩ := Steps.callFree hM p X.admits X.cas X.clock (acts := []) hfr happ hPc trivial
  have hq' : vx_Q Qc XC mc ms free a (U.calling g mk a) o s₂ := hq
  rw [State.frames_setTop' g h.top] at hend
  obtain ⟨g₀, hg0⟩ := Option.isSome_iff_exists.mp h.top
  obtain ⟨r, hr⟩ := State.topJava?_eq_some.mp hg0
  have hr' : (({ U with heap := s₂.heap, slotsUsed := s₂.slotsUsed } : State).setVm s₂.vm).frames = .java g₀ :: r := hr
  rcases hq' with ⟨hqc, L, hfe, hL⟩ | ⟨q, rfl, E, ce, L, hx, hce, hcv, hcl, hW₂, hsm, hL⟩
  · obtain ⟨⟨v, rfl⟩, hW₂, e2, q2, q3, q4, q5, q6⟩ := id hfe
    have e3 : s₂ = ({ (U.calling g mk a).setFrames s₂.frames with heap := s₂.heap, slotsUsed := s₂.slotsUsed } : State).setVm s₂.vm := by
      have : s₂ = ({ s₂ with vm := (U.calling g mk a).vm } : State).setVm s₂.vm := rfl
      rw [e2] at this
      exact this
    obtain ⟨c₂, i₂, len₂, hc₂, hd₂, hf₂⟩ := hend
    have hW' : U.WarmedH s₂.vm := hW₂
    have hcc : c₂ = c := by
      have h1 : s₂.code? g.method = U.code? g.method := by
        rw [State.code?_eq, State.code?_eq, hW'.alike.method?]
      exact Option.some.inj (hc₂.symm.trans (h1.trans h.code))
    subst hcc
    have hlen : len₂ = len := by rw [hdg] at hd₂; cases hd₂; rfl
    subst hlen
    have hs₂ : s₂ = (({ U with heap := s₂.heap, slotsUsed := s₂.slotsUsed } : State).setVm s₂.vm).setTop { g with pc := g.pc + len₂, stack := v.toList ++ g.stack } := by
      refine e3.trans ?_
      rw [hf₂, State.calling_eq h.top, State.setFrames_setFrames, State.setTop_of_frames _ hr', hr]
      rfl
    have hsame : U.sameButNew ({ U with heap := s₂.heap, slotsUsed := s₂.slotsUsed } : State) L mc ms := by
      refine ⟨?_, q2, q3, q4, q5, q6⟩
      obtain ⟨t, ht, -⟩ := State.frames_cons hr
      show ({ U with heap := s₂.heap, slotsUsed := s₂.slotsUsed } : State) = { U.setFrames U.frames with heap := s₂.heap, slotsUsed := s₂.slotsUsed }
      rw [State.setFrames_self ht]
    subst hg
    refine Or.inl ⟨v, ⟨(({ U with heap := s₂.heap, slotsUsed := s₂.slotsUsed } : State).setVm s₂.vm), Ls ++ L, c0 + mc, s0 + ms⟩,
      ⟨X.admits, X.cas, X.clock, X.frames, X.room, X.hears, X.method, X.code, (X.here.setHeapUsed s₂.heap s₂.slotsUsed).setVm hW'.alike, X.tail, State.WarmedH.trans X.warmed hW', X.limits, X.bytes, X.same.trans (hsame.setVm s.vm)⟩,
      ⟨g, mk, s₂, L, rfl, rfl, hqc, rfl, hL, rfl, rfl⟩, ?_⟩
    show Steps p.tables e below _ ((({ U with heap := s₂.heap, slotsUsed := s₂.slotsUsed } : State).setVm s₂.vm).setTop { g with pc := g.pc + len₂, stack := v.toList ++ g.stack })
    rw [← hs₂]
    exact hsteps
  · obtain ⟨e2, q2, q3, q4, q5, q6⟩ := id hsm
    have e3 : s₂ = ({ (U.calling g mk a).setFrames s₂.frames with heap := s₂.heap, slotsUsed := s₂.slotsUsed } : State).setVm s₂.vm := by
      have : s₂ = ({ s₂ with vm := (U.calling g mk a).vm } : State).setVm s₂.vm := rfl
      rw [e2] at this
      exact this
    have hf₂ : s₂.frames = .throwing q :: .java g :: U.frames.tail := hend
    have hW' : U.WarmedH s₂.vm := hW₂
    have hs₂ : s₂ = ((({ U with heap := s₂.heap, slotsUsed := s₂.slotsUsed } : State).setVm s₂.vm).setTop g).pushFrame (.throwing q) := by
      refine e3.trans ?_
      rw [hf₂, State.calling_eq h.top, State.setFrames_setFrames, State.pushFrame, State.frames_setTop _ hr', State.setTop_of_frames _ hr', State.setFrames_setFrames, hr]
      rfl
    have hsame : U.sameButNew ({ U with heap := s₂.heap, slotsUsed := s₂.slotsUsed } : State) L mc ms := by
      refine ⟨?_, q2, q3, q4, q5, q6⟩
      obtain ⟨t, ht, -⟩ := State.frames_cons hr
      show ({ U with heap := s₂.heap, slotsUsed := s₂.slotsUsed } : State) = { U.setFrames U.frames with heap := s₂.heap, slotsUsed := s₂.slotsUsed }
      rw [State.setFrames_self ht]
    subst hg
    refine Or.inr ⟨q, ⟨(({ U with heap := s₂.heap, slotsUsed := s₂.slotsUsed } : State).setVm s₂.vm), Ls ++ L, c0 + mc, s0 + ms⟩,
      ⟨X.admits, X.cas, X.clock, X.frames, X.room, X.hears, X.method, X.code, (X.here.setHeapUsed s₂.heap s₂.slotsUsed).setVm hW'.alike, X.tail, State.WarmedH.trans X.warmed hW', X.limits, X.bytes, X.same.trans (hsame.setVm s.vm)⟩,
      ⟨g, mk, s₂, L, E, ce, rfl, rfl, hx, hce, hcv, hcl, rfl, hL, rfl, rfl⟩, ?_⟩
    show Steps p.tables e below _ (((({ U with heap := s₂.heap, slotsUsed := s₂.slotsUsed } : State).setVm s₂.vm).setTop g).pushFrame (.throwing q))
    rw [← hs₂]
    exact hsteps
end
variable {p : Program} {l : Launch} {e : Env} {R : Room} {s : State} {m : MethodId} {args : Array Value} {below : List Frame} {meth : Method} {c : Code} {T : State} {H : Heap} {locs : List Loc} {cells slots : Nat}
theorem vx_callVX (X : Stand p l e R s m args below meth c T locs cells slots) (hexec : p.tables.exec = Jvm.exec) {own C : String} {index : Nat} {y : MethodName} {bytes : ByteArray} {maxL : Nat} {ret : Option FieldType} {hh : List (Nat × Nat × Nat × Nat)}
    (hown : s.vm.findClass own = some m.cls) (hlink : (Cond.methodLink own index y).before args s = true) (hinst : (Cond.instanceMethod y).before args s = true) (hsel : (Cond.selects C y y).before args s = true)
    (hcode : (Cond.codeWith y bytes maxL ret hh).before args s = true) (hy : y.cls ≠ "java/lang/invoke/MethodHandle" ∧ y.cls ≠ "java/lang/invoke/VarHandle")
    {W9 : Nat} {Pre : Pt → Array Value → Prop} {Post : Pt → Array Value → Option Value → Pt → Prop} {PostX : Pt → Array Value → Addr → Pt → Prop} (hK : vx_Back l R p e below s args y 3 W9 Pre Post PostX)
    {b : Addr} {cellB : Cell} (hcell : T.heap[b]? = some cellB) (hobj : cellB.vm.isStatics = false) (hcls : s.vm.findClass C = some cellB.cls)
    {g : JFrame} (hg : g.method = m) (hsize : g.locals.size = c.maxLocals) {argsL rest : List Value} (hlen : ∀ sig, parseMethodDescriptor y.desc = some sig → argsL.length = sig.parameters.length)
    (hstack : g.stack = argsL.reverse ++ .ref b :: rest) (hW : 2 * g.monitorRoom + (rest.map fun v => v.category).sum ≤ W9) (hdg : decode c.code g.pc = .ok (.invokevirtual index, 3))
    (hpre : ∀ vm₁, s.WarmedH vm₁ → Pre ⟨T.setVm vm₁, locs, cells, slots⟩ (Value.ref b :: argsL).toArray) :
    (∃ (v : Option Value) (vm₁ : Vm) (B : Pt), s.WarmedH vm₁ ∧ Stand p l e R s m args below meth c B.U B.locs B.cells B.slots ∧ Post ⟨T.setVm vm₁, locs, cells, slots⟩ (Value.ref b :: argsL).toArray v B ∧
      ∀ target, Steps p.tables e below (B.U.setTop { g with pc := g.pc + 3, stack := v.toList ++ rest }) target → Steps p.tables e below (T.setTop g) target) ∨
    (∃ (q : Addr) (vm₁ : Vm) (B : Pt), s.WarmedH vm₁ ∧ Stand p l e R s m args below meth c B.U B.locs B.cells B.slots ∧ PostX ⟨T.setVm vm₁, locs, cells, slots⟩ (Value.ref b :: argsL).toArray q B ∧
      Steps p.tables e below (T.setTop g) ((B.U.setTop { g with stack := rest }).pushFrame (.throwing q))) := by
  obtain ⟨mk, methM, hnamed, hmethM, hstM, habM⟩ := Cond.instanceMethod_spec hinst
  obtain ⟨m8, methM', cM, hn8, hmethM', -, -, -, -, -, -, hsigM⟩ := Cond.codeWith_spec hcode
  cases Option.some.inj (hn8.symm.trans hnamed)
  cases hmethM.symm.trans hmethM'
  obtain ⟨c2, r2, m2, q1, q2, q3, q4, kP, hkP, hkPi⟩ := Cond.selects_spec hsel
  cases hcls.symm.trans q1
  cases (State.methodFound?_of_named hnamed hy).symm.trans q2
  cases hnamed.symm.trans q3
  have hselP : selectMethod e.platform s.vm cellB.cls mk = .method mk := by rw [Launch.admits_selectMethod X.admits]; exact q4
  obtain ⟨vm₁, X₁, hstep₁⟩ := X.invokevirtual hexec hown hlink hnamed hmethM hstM hkP hkPi hy (a := b) (cell := cellB) hcell
    (fun z h => by rw [h] at hobj; cases hobj) hselP hmethM habM hkP hkPi (g := g) hg (argsL := argsL) (rest := rest) (hlen _ hsigM) hstack hdg
  rcases hK m meth c ⟨T.setVm vm₁, locs, cells, slots⟩ { g with stack := rest } (.invokevirtual index) mk (Value.ref b :: argsL).toArray X₁ hg hsize hdg hW (X₁.named hnamed) (hpre vm₁ X₁.warmed) with ⟨v, B, X', hpost, hsteps⟩ | ⟨q, B, X', hpost, hsteps⟩
  · exact Or.inl ⟨v, vm₁, B, X₁.warmed, X', hpost, fun target h => hstep₁ _ fun acts => by rw [doInvoke_state]; exact hsteps.trans h⟩
  · exact Or.inr ⟨q, vm₁, B, X₁.warmed, X', hpost, hstep₁ _ fun acts => by rw [doInvoke_state]; exact hsteps⟩
theorem vx_callSX (X : Stand p l e R s m args below meth c T locs cells slots) (hexec : p.tables.exec = Jvm.exec) {own : String} {index : Nat} {y : MethodName} {bytes : ByteArray} {maxL : Nat} {ret : Option FieldType} {hh : List (Nat × Nat × Nat × Nat)}
    (hown : s.vm.findClass own = some m.cls) (hlink : (Cond.methodLink own index y).before args s = true) (hstat : (Cond.static y).before args s = true) (hinit : (Cond.initialized y.cls).before args s = true)
    (hcode : (Cond.codeWith y bytes maxL ret hh).before args s = true) (hy : y.cls ≠ "java/lang/invoke/MethodHandle" ∧ y.cls ≠ "java/lang/invoke/VarHandle")
    {W9 : Nat} {Pre : Pt → Array Value → Prop} {Post : Pt → Array Value → Option Value → Pt → Prop} {PostX : Pt → Array Value → Addr → Pt → Prop} (hK : vx_Back l R p e below s args y 3 W9 Pre Post PostX)
    {g : JFrame} (hg : g.method = m) (hsize : g.locals.size = c.maxLocals) {argsL rest : List Value} (hlen : ∀ sig, parseMethodDescriptor y.desc = some sig → argsL.length = sig.parameters.length)
    (hstack : g.stack = argsL.reverse ++ rest) (hW : 2 * g.monitorRoom + (rest.map fun v => v.category).sum ≤ W9) (hdg : decode c.code g.pc = .ok (.invokestatic index, 3))
    (hpre : ∀ vm₁, s.WarmedH vm₁ → Pre ⟨T.setVm vm₁, locs, cells, slots⟩ argsL.toArray) :
    (∃ (v : Option Value) (vm₁ : Vm) (B : Pt), s.WarmedH vm₁ ∧ Stand p l e R s m args below meth c B.U B.locs B.cells B.slots ∧ Post ⟨T.setVm vm₁, locs, cells, slots⟩ argsL.toArray v B ∧
      ∀ target, Steps p.tables e below (B.U.setTop { g with pc := g.pc + 3, stack := v.toList ++ rest }) target → Steps p.tables e below (T.setTop g) target) ∨
    (∃ (q : Addr) (vm₁ : Vm) (B : Pt), s.WarmedH vm₁ ∧ Stand p l e R s m args below meth c B.U B.locs B.cells B.slots ∧ PostX ⟨T.setVm vm₁, locs, cells, slots⟩ argsL.toArray q B ∧
      Steps p.tables e below (T.setTop g) ((B.U.setTop { g with stack := rest }).pushFrame (.throwing q))) := by
  obtain ⟨mk, methM, cM, hnamed, hmethM, -, -, -, -, -, -, hsigM⟩ := Cond.codeWith_spec hcode
  have hstatic : methM.isStatic = true := Cond.static_spec hnamed hmethM hstat
  obtain ⟨kP, hkP, -⟩ := className_of_methodNamed hnamed
  have hinitP : kP.init = .initialized := Cond.initialized_spec (findClass_of_methodNamed hnamed) hkP hinit
  obtain ⟨vm₁, X₁, hstep₁⟩ := X.invokestatic hexec hown hlink hnamed hmethM hstatic hkP hinitP hy (g := g) hg (argsL := argsL) (rest := rest) (hlen _ hsigM) hstack hdg
  rcases hK m meth c ⟨T.setVm vm₁, locs, cells, slots⟩ { g with stack := rest } (.invokestatic index) mk argsL.toArray X₁ hg hsize hdg hW (X₁.named hnamed) (hpre vm₁ X₁.warmed) with ⟨v, B, X', hpost, hsteps⟩ | ⟨q, B, X', hpost, hsteps⟩
  · exact Or.inl ⟨v, vm₁, B, X₁.warmed, X', hpost, fun target h => hstep₁ _ fun acts => by rw [doInvoke_state]; exact hsteps.trans h⟩
  · exact Or.inr ⟨q, vm₁, B, X₁.warmed, X', hpost, hstep₁ _ fun acts => by rw [doInvoke_state]; exact hsteps⟩
theorem vx_callVW (X : Stand p l e R s m args below meth c T locs cells slots) (hexec : p.tables.exec = Jvm.exec) {own C : String} {index : Nat} {y : MethodName} {bytes : ByteArray} {maxL : Nat} {ret : Option FieldType} {hh : List (Nat × Nat × Nat × Nat)}
    (hown : s.vm.findClass own = some m.cls) (hlink : (Cond.methodLink own index y).before args s = true) (hinst : (Cond.instanceMethod y).before args s = true) (hsel : (Cond.selects C y y).before args s = true)
    (hcode : (Cond.codeWith y bytes maxL ret hh).before args s = true) (hy : y.cls ≠ "java/lang/invoke/MethodHandle" ∧ y.cls ≠ "java/lang/invoke/VarHandle")
    {W9 : Nat} {Pre : Pt → Array Value → Prop} {Post : Pt → Array Value → Option Value → Pt → Prop} (hK : Back l R p e below s args y 3 W9 Pre Post)
    {b : Addr} {cellB : Cell} (hcell : T.heap[b]? = some cellB) (hobj : cellB.vm.isStatics = false) (hcls : s.vm.findClass C = some cellB.cls)
    {g : JFrame} (hg : g.method = m) (hsize : g.locals.size = c.maxLocals) {argsL rest : List Value} (hlen : ∀ sig, parseMethodDescriptor y.desc = some sig → argsL.length = sig.parameters.length)
    (hstack : g.stack = argsL.reverse ++ .ref b :: rest) (hW : 2 * g.monitorRoom + (rest.map fun v => v.category).sum ≤ W9) (hdg : decode c.code g.pc = .ok (.invokevirtual index, 3))
    (hpre : ∀ vm₁, s.WarmedH vm₁ → Pre ⟨T.setVm vm₁, locs, cells, slots⟩ (Value.ref b :: argsL).toArray) :
    ∃ (v : Option Value) (vm₁ : Vm) (B : Pt), s.WarmedH vm₁ ∧ Stand p l e R s m args below meth c B.U B.locs B.cells B.slots ∧ Post ⟨T.setVm vm₁, locs, cells, slots⟩ (Value.ref b :: argsL).toArray v B ∧
      ∀ target, Steps p.tables e below (B.U.setTop { g with pc := g.pc + 3, stack := v.toList ++ rest }) target → Steps p.tables e below (T.setTop g) target := by
  obtain ⟨mk, methM, hnamed, hmethM, hstM, habM⟩ := Cond.instanceMethod_spec hinst
  obtain ⟨m8, methM', cM, hn8, hmethM', -, -, -, -, -, -, hsigM⟩ := Cond.codeWith_spec hcode
  cases Option.some.inj (hn8.symm.trans hnamed)
  cases hmethM.symm.trans hmethM'
  obtain ⟨c2, r2, m2, q1, q2, q3, q4, kP, hkP, hkPi⟩ := Cond.selects_spec hsel
  cases hcls.symm.trans q1
  cases (State.methodFound?_of_named hnamed hy).symm.trans q2
  cases hnamed.symm.trans q3
  have hselP : selectMethod e.platform s.vm cellB.cls mk = .method mk := by rw [Launch.admits_selectMethod X.admits]; exact q4
  obtain ⟨vm₁, X₁, hstep₁⟩ := X.invokevirtual hexec hown hlink hnamed hmethM hstM hkP hkPi hy (a := b) (cell := cellB) hcell
    (fun z h => by rw [h] at hobj; cases hobj) hselP hmethM habM hkP hkPi (g := g) hg (argsL := argsL) (rest := rest) (hlen _ hsigM) hstack hdg
  obtain ⟨v, B, X', hpost, hsteps⟩ := hK m meth c ⟨T.setVm vm₁, locs, cells, slots⟩ { g with stack := rest } (.invokevirtual index) mk (Value.ref b :: argsL).toArray X₁ hg hsize hdg hW (X₁.named hnamed) (hpre vm₁ X₁.warmed)
  exact ⟨v, vm₁, B, X₁.warmed, X', hpost, fun target h => hstep₁ _ fun acts => by rw [doInvoke_state]; exact hsteps.trans h⟩
abbrev vx_CVW (R : Room) (s : State) (args : Array Value) (own C : String) (index : Nat) (y : MethodName) (bytes : ByteArray) (maxL : Nat) (ret : Option FieldType) (hh : List (Nat × Nat × Nat × Nat)) (ws : List Cond) (rm : Room) (mc ms n : Nat) : Prop :=
  (rm.cells = mc ∧ rm.slots = ms ∧ rm.frames + 1 ≤ R.frames ∧ 8 + (maxL + 11) + rm.locals ≤ R.locals ∧ (∀ w ∈ ws, ∀ (a' : Array Value) (U : State), s.WarmedH U.vm → w.before a' U = true) ∧ Cond.codeWith y bytes maxL ret hh ∈ ws) ∧
  (Cond.codeWith y bytes maxL ret hh).before args s = true ∧ (Cond.initialized y.cls).before args s = true ∧ (y.cls ≠ "java/lang/invoke/MethodHandle" ∧ y.cls ≠ "java/lang/invoke/VarHandle") ∧
  (∀ sig, parseMethodDescriptor y.desc = some sig → n = sig.parameters.length) ∧ (Cond.methodLink own index y).before args s = true ∧ (Cond.instanceMethod y).before args s = true ∧ (Cond.selects C y y).before args s = true
theorem vx_cwVW {own C : String} {index maxL mc ms : Nat} {y : MethodName} {bytes : ByteArray} {ret : Option FieldType} {hh : List (Nat × Nat × Nat × Nat)} {Ts ws ws' : List Cond} {rm : Room} (n : Nat) (ht : ∀ w ∈ Ts, w.before args s = true) (hT : GoodIn Ts (wsV own index C y ws)) (hw : ws = Cond.codeWith y bytes maxL ret hh :: ws') (hrc : rm.cells = mc) (hrs : rm.slots = ms)
    (hd : y.cls = C ∧ y.cls ≠ "java/lang/invoke/MethodHandle" ∧ y.cls ≠ "java/lang/invoke/VarHandle" ∧ (parseMethodDescriptor y.desc).map (fun d => d.parameters.length) = some n) (hR : rm.frames + 1 ≤ R.frames ∧ 8 + (maxL + 11) + rm.locals ≤ R.locals) :
    vx_CVW R s args own C index y bytes maxL ret hh ws rm mc ms n := by
  obtain ⟨hC, hd⟩ := hd
  subst hC
  have ok : ∀ w ∈ wsV own index y.cls y ws, w.before args s = true := fun w h => ht w (hT w h).1
  have hG : GoodIn Ts ws := fun w h => hT w (by unfold wsV; exact List.mem_append_right _ h)
  have hc : Cond.codeWith y bytes maxL ret hh ∈ ws := by rw [hw]; exact List.mem_cons_self
  refine ⟨⟨hrc, hrs, hR.1, hR.2, pay_in ht hG, hc⟩, ht _ (hG _ hc).1, ok _ (by simp [wsV]), ⟨hd.1, hd.2.1⟩, fun sig h => ?_, ok _ (by simp [wsV]), ok _ (by simp [wsV]), ok _ (by simp [wsV])⟩
  have h2 := hd.2.2
  rw [h] at h2
  exact (Option.some.inj h2).symm
theorem vx_runVW {y : MethodName} {bytes cc : ByteArray} {maxL nL mc ms n index : Nat} {ret : Option FieldType} {hh : List (Nat × Nat × Nat × Nat)} {ws : List Cond} {rm : Room} {Pc : Array Value → State → Prop} {Qc : Array Value → State → Outcome → State → Prop} {free : Addr → Prop} {Ts : List Cond} {own C : String} {b : Addr} {As rest : List Value} {g : JFrame}
    (S : CallFix p m c cc nL s args Ts own) (hM : Met l y ws rm Pc Qc mc ms free) (cw : vx_CVW R s args own C index y bytes maxL ret hh ws rm mc ms n) (hp : PreV s H C b Pc As)
    (hg : g.method = m) (hn : As.length = n) (hsize : g.locals.size = nL) (hstack : g.stack = As.reverse ++ .ref b :: rest) (hW : 2 * g.monitorRoom + (rest.map fun v => v.category).sum ≤ 8) (hdg : decode cc g.pc = .ok (.invokevirtual index, 3)) (hf : cells + mc ≤ R.cells ∧ slots + ms ≤ R.slots) :
    va_Run p l e R s m args below meth c H locs cells slots mc ms g rest (Qc (Value.ref b :: As).toArray) free := by
  obtain ⟨⟨hrc, hrs, hfr, hlo, hws, hcw⟩, hcode, hini, hy, hlen, hl, hin, hse⟩ := cw
  have hK : Back l R p e below s args y 3 8 (PreOf R mc ms Pc) (PostOf Qc mc ms free) := va_backW (hh := hh) (bytes := bytes) (maxL := maxL) (ret := ret) hM hp.1 hrc hrs hfr hlo hws hcw (fun a' U hW => word_at hW (Or.inl (by first | rfl | simp [Cond.onTables, Cond.keeps, Cond.steady])) hini)
  obtain ⟨hx, hb, hml, ho, -⟩ := S
  obtain ⟨-, ⟨cellB, hcB, hoB, hclB⟩, hPc⟩ := hp
  intro T hT X
  obtain ⟨v, vm₁, ⟨U', l2, c2, s2⟩, hW₁, X', ⟨g', mk, t, L, e1, e2, hq, h1, hL, h2, h3⟩, st⟩ := vx_callVW X hx (C := C) (hh := hh) (bytes := bytes) (maxL := maxL) (ret := ret) ho hl hin hse hcode hy hK (by rw [hT]; exact hcB) hoB hclB hg (hsize.trans hml.symm) (argsL := As) (rest := rest) (fun sig h => hn.trans (hlen sig h)) hstack hW (by rw [hb]; exact hdg)
    (fun vm₁ hW₁ => ⟨hf.1, hf.2, hPc (T.setVm vm₁) hT hW₁⟩)
  dsimp only [Pt.U, Pt.locs, Pt.cells, Pt.slots] at X' e1 e2 h1 h2 h3 st
  subst h1; subst h2; subst h3
  exact ⟨v, (T.setVm vm₁).calling g' mk (Value.ref b :: As).toArray, t, U', L, hT, X', hL, e1, e2, hq, st⟩
section
variable {y : MethodName} {bytes cc : ByteArray} {maxL nL mc ms n index : Nat} {ret : Option FieldType} {ws : List Cond} {rm : Room} {Pc : Array Value → State → Prop} {Qc : Array Value → State → Outcome → State → Prop} {XC : String → State → State → Prop} {free : Addr → Prop} {Ts : List Cond} {own C : String} {b : Addr} {As rest : List Value} {g : JFrame}
theorem vx_runVX {hh : List (Nat × Nat × Nat × Nat)} (S : CallFix p m c cc nL s args Ts own) (hM : vx_Met l y ws rm Pc Qc XC mc ms free) (cw : vx_CVW R s args own C index y bytes maxL ret hh ws rm mc ms n) (hp : PreV s H C b Pc As)
    (hg : g.method = m) (hn : As.length = n) (hsize : g.locals.size = nL) (hstack : g.stack = As.reverse ++ .ref b :: rest) (hW : 2 * g.monitorRoom + (rest.map fun v => v.category).sum ≤ 8) (hdg : decode cc g.pc = .ok (.invokevirtual index, 3)) (hf : cells + mc ≤ R.cells ∧ slots + ms ≤ R.slots) :
    vx_Run p l e R s m args below meth c H locs cells slots mc ms g rest (Qc (Value.ref b :: As).toArray) XC free := by
  obtain ⟨⟨hrc, hrs, hfr, hlo, hws, hcw⟩, hcode, hini, hy, hlen, hl, hin, hse⟩ := cw
  have hK : vx_Back l R p e below s args y 3 8 (PreOf R mc ms Pc) (PostOf Qc mc ms free) (vx_Post XC mc ms free) := vx_backW (hh := hh) (bytes := bytes) (maxL := maxL) (ret := ret) hM hp.1 hrc hrs hfr hlo hws hcw (fun a' U hW => word_at hW (Or.inl (by first | rfl | simp [Cond.onTables, Cond.keeps, Cond.steady])) hini)
  obtain ⟨hx, hb, hml, ho, -⟩ := S
  obtain ⟨-, ⟨cellB, hcB, hoB, hclB⟩, hPc⟩ := hp
  intro T hT X
  rcases vx_callVX X hx (C := C) (hh := hh) (bytes := bytes) (maxL := maxL) (ret := ret) ho hl hin hse hcode hy hK (by rw [hT]; exact hcB) hoB hclB hg (hsize.trans hml.symm) (argsL := As) (rest := rest) (fun sig h => hn.trans (hlen sig h)) hstack hW (by rw [hb]; exact hdg)
    (fun vm₁ hW₁ => ⟨hf.1, hf.2, hPc (T.setVm vm₁) hT hW₁⟩) with ⟨v, vm₁, ⟨U', l2, c2, s2⟩, hW₁, X', ⟨g', mk, t, L, e1, e2, hq, h1, hL, h2, h3⟩, st⟩ | ⟨q, vm₁, ⟨U', l2, c2, s2⟩, hW₁, X', ⟨g', mk, t, L, E, ce, e1, e2, hq, hce, hcv, hcl, h1, hL, h2, h3⟩, st⟩
  · dsimp only [Pt.U, Pt.locs, Pt.cells, Pt.slots] at X' e1 e2 h1 h2 h3 st
    subst h1; subst h2; subst h3
    exact Or.inl ⟨v, (T.setVm vm₁).calling g' mk (Value.ref b :: As).toArray, t, U', L, hT, X', hL, e1, e2, hq, st⟩
  · dsimp only [Pt.U, Pt.locs, Pt.cells, Pt.slots] at X' e1 e2 h1 h2 h3 st hcl
    subst h1; subst h2; subst h3
    exact Or.inr ⟨q, (T.setVm vm₁).calling g' mk (Value.ref b :: As).toArray, t, U', L, E, ce, hT, X', hL, e1, e2, hq, hce, hcv, vx_cls hW₁ hcl, st⟩
theorem vx_runSX {hh : List (Nat × Nat × Nat × Nat)} (S : CallFix p m c cc nL s args Ts own) (hM : vx_Met l y ws rm Pc Qc XC mc ms free) (cw : vx_CSW R s args own index y bytes maxL ret hh ws rm mc ms n) (hp : PreS s H Pc As)
    (hg : g.method = m) (hn : As.length = n) (hsize : g.locals.size = nL) (hstack : g.stack = As.reverse ++ rest) (hW : 2 * g.monitorRoom + (rest.map fun v => v.category).sum ≤ 8) (hdg : decode cc g.pc = .ok (.invokestatic index, 3)) (hf : cells + mc ≤ R.cells ∧ slots + ms ≤ R.slots) :
    vx_Run p l e R s m args below meth c H locs cells slots mc ms g rest (Qc As.toArray) XC free := by
  obtain ⟨⟨hrc, hrs, hfr, hlo, hws, hcw⟩, hcode, hini, hy, hlen, hl, hstt⟩ := cw
  have hK : vx_Back l R p e below s args y 3 8 (PreOf R mc ms Pc) (PostOf Qc mc ms free) (vx_Post XC mc ms free) := vx_backW (hh := hh) (bytes := bytes) (maxL := maxL) (ret := ret) hM hp.1 hrc hrs hfr hlo hws hcw (fun a' U hW => word_at hW (Or.inl (by first | rfl | simp [Cond.onTables, Cond.keeps, Cond.steady])) hini)
  obtain ⟨hx, hb, hml, ho, -⟩ := S
  intro T hT X
  rcases vx_callSX X hx (hh := hh) (bytes := bytes) (maxL := maxL) (ret := ret) ho hl hstt hini hcode hy hK hg (hsize.trans hml.symm) (argsL := As) (rest := rest) (fun sig h => hn.trans (hlen sig h)) hstack hW (by rw [hb]; exact hdg)
    (fun vm₁ hW₁ => ⟨hf.1, hf.2, hp.2 (T.setVm vm₁) hT hW₁⟩) with ⟨v, vm₁, ⟨U', l2, c2, s2⟩, hW₁, X', ⟨g', mk, t, L, e1, e2, hq, h1, hL, h2, h3⟩, st⟩ | ⟨q, vm₁, ⟨U', l2, c2, s2⟩, hW₁, X', ⟨g', mk, t, L, E, ce, e1, e2, hq, hce, hcv, hcl, h1, hL, h2, h3⟩, st⟩
  · dsimp only [Pt.U, Pt.locs, Pt.cells, Pt.slots] at X' e1 e2 h1 h2 h3 st
    subst h1; subst h2; subst h3
    exact Or.inl ⟨v, (T.setVm vm₁).calling g' mk As.toArray, t, U', L, hT, X', hL, e1, e2, hq, st⟩
  · dsimp only [Pt.U, Pt.locs, Pt.cells, Pt.slots] at X' e1 e2 h1 h2 h3 st hcl
    subst h1; subst h2; subst h3
    exact Or.inr ⟨q, (T.setVm vm₁).calling g' mk As.toArray, t, U', L, E, ce, hT, X', hL, e1, e2, hq, hce, hcv, vx_cls hW₁ hcl, st⟩
end
end VXH
theorem vx_ofWH {l : Launch} {y : MethodName} {ws ws' : List Cond} {rm : Room} {Pc : Array Value → State → Prop} {Qc : Array Value → State → Outcome → State → Prop} {XC : String → State → State → Prop} {mc ms : Nat} {free : Addr → Prop} {cc : ByteArray} {maxL : Nat} {ret : Option FieldType} {hh : List (Nat × Nat × Nat × Nat)}
    (hy : plainName y.cls = true) (hw : ws = Cond.codeWith y cc maxL ret hh :: ws')
    (body : ∀ p e s m args below meth c s₁, BodyLoose p l y (headSpec ws rm) cc maxL ret e s m args below meth c s₁ → c.maxLocals = maxL → Pc args s →
      W p l e (headSpec ws rm).room s m args below meth c s.heap [] 0 0 (vx_MQ below Qc XC args s mc ms free) (entryFrame m args maxL)) : vx_Met l y ws rm Pc Qc XC mc ms free := by
  refine MetFree.of_bodyS (code := cc) (maxLocals := maxL) (ret := ret) hy ?_ ?_
  · intro args s m h hn
    obtain ⟨m9, meth, c, hn9, h1, h2, h3, h4, -, h5, h6, -⟩ := Cond.codeWith_spec (atoms_spec (ws := ws) h _ (by rw [hw]; exact List.mem_cons_self))
    cases hn.symm.trans hn9
    exact ⟨meth, c, h1, h2, h3, h4, h5, h6⟩
  · intro p e s m args below meth c s₁ B hml hP _
    have hh0 : s₁.heap = s.heap := by rw [B.state]; rfl
    obtain ⟨t, a1, o, b1, b2, b3⟩ := body p e s m args below meth c s₁ B hml hP s₁ hh0 (Stand.of_body B)
    exact ⟨t, o, a1, b1, b2, b3⟩
/-! ===== END ===== -/
end
section
/-! ===== BEGIN printed: names, fields, word lists, decode rows ===== -/
def RX0 : String := "CommitCouncil$Acceptor"
def TX0 : u_T := fun k => match k with
  | 0 => ("CommitCouncil$Member", "up", "Z", false)
  | 1 => ("CommitCouncil$Acceptor", "promised", "I", false)
  | _ => ("CommitCouncil$Acceptor", "accepted", "[I", true)
def tyX0 : Nat → FieldType := fun k => match k with
  | 0 => .boolean
  | 1 => .int
  | _ => .array .int
abbrev wsX00 : List Cond := u_ws RX0 TX0 3
theorem nmX0 : ∀ a, a < 3 → ∀ b, b < 3 → a ≠ b → (TX0 a).2.1 ≠ (TX0 b).2.1 := by decide +kernel
theorem tyX0_ok : ∀ k, k < 3 → parseFieldDescriptor (TX0 k).2.2.1 = some (tyX0 k) := by decide +kernel
abbrev cX0_init : ByteArray := prog_2_method_1_code
def yX0_init : MethodName := ⟨RX0, "<init>", "(I)V"⟩
abbrev cX0_accept : ByteArray := prog_2_method_2_code
def yX0_accept : MethodName := ⟨RX0, "accept", "(III)V"⟩
def RX1 : String := "CommitCouncil$Leader"
def TX1 : u_T := fun k => match k with
  | 0 => ("CommitCouncil$Member", "up", "Z", false)
  | 1 => ("CommitCouncil$Leader", "ballot", "I", false)
  | 2 => ("CommitCouncil$Leader", "phase", "I", false)
  | 3 => ("CommitCouncil$Leader", "highest", "I", false)
  | 4 => ("CommitCouncil$Leader", "decision", "I", false)
  | 5 => ("CommitCouncil$Leader", "toldBy", "I", false)
  | 6 => ("CommitCouncil$Leader", "latest", "[I", true)
  | 7 => ("CommitCouncil$Leader", "outcomes", "[I", true)
  | 8 => ("CommitCouncil$Leader", "acceptorCount", "I", true)
  | _ => ("CommitCouncil$Leader", "sights", "[I", true)
def tyX1 : Nat → FieldType := fun k => match k with
  | 0 => .boolean
  | 1 => .int
  | 2 => .int
  | 3 => .int
  | 4 => .int
  | 5 => .int
  | 6 => .array .int
  | 7 => .array .int
  | 8 => .int
  | _ => .array .int
abbrev wsX10 : List Cond := u_ws RX1 TX1 10
theorem nmX1 : ∀ a, a < 10 → ∀ b, b < 10 → a ≠ b → (TX1 a).2.1 ≠ (TX1 b).2.1 := by decide +kernel
theorem tyX1_ok : ∀ k, k < 10 → parseFieldDescriptor (TX1 k).2.2.1 = some (tyX1 k) := by decide +kernel
abbrev cX1_init : ByteArray := prog_3_method_1_code
def yX1_init : MethodName := ⟨RX1, "<init>", "(II)V"⟩
abbrev cX1_startAsking : ByteArray := prog_3_method_2_code
def yX1_startAsking : MethodName := ⟨RX1, "startAsking", "(I)V"⟩
abbrev cX1_keeps : ByteArray := prog_3_method_3_code
def yX1_keeps : MethodName := ⟨RX1, "keeps", "(II)Z"⟩
abbrev cX1_oneMoreIsEnough : ByteArray := prog_3_method_4_code
def yX1_oneMoreIsEnough : MethodName := ⟨RX1, "oneMoreIsEnough", "()Z"⟩
abbrev cX1_sightOf : ByteArray := prog_3_method_5_code
def yX1_sightOf : MethodName := ⟨RX1, "sightOf", "(II)I"⟩
abbrev cX1_decisionAfter : ByteArray := prog_3_method_6_code
def yX1_decisionAfter : MethodName := ⟨RX1, "decisionAfter", "(III)I"⟩
abbrev cX1_see : ByteArray := prog_3_method_7_code
def yX1_see : MethodName := ⟨RX1, "see", "(III)V"⟩
abbrev cX1_outcomeAfter : ByteArray := prog_3_method_8_code
def yX1_outcomeAfter : MethodName := ⟨RX1, "outcomeAfter", "(III)I"⟩
abbrev cX1_forget : ByteArray := prog_3_method_9_code
def yX1_forget : MethodName := ⟨RX1, "forget", "()V"⟩
def RX2 : String := "CommitCouncil$Ledger"
def TX2 : u_T := fun k => match k with
  | 0 => ("CommitCouncil$Ledger", "words", "[I", true)
  | 1 => ("CommitCouncil$Ledger", "unlike", "[Z", true)
  | 2 => ("CommitCouncil$Ledger", "acceptorCount", "I", true)
  | _ => ("CommitCouncil$Ledger", "takers", "[I", true)
def tyX2 : Nat → FieldType := fun k => match k with
  | 0 => .array .int
  | 1 => .array .boolean
  | 2 => .int
  | _ => .array .int
abbrev wsX20 : List Cond := u_ws RX2 TX2 4
theorem nmX2 : ∀ a, a < 4 → ∀ b, b < 4 → a ≠ b → (TX2 a).2.1 ≠ (TX2 b).2.1 := by decide +kernel
theorem tyX2_ok : ∀ k, k < 4 → parseFieldDescriptor (TX2 k).2.2.1 = some (tyX2 k) := by decide +kernel
abbrev cX2_init : ByteArray := prog_4_method_1_code
def yX2_init : MethodName := ⟨RX2, "<init>", "(II)V"⟩
abbrev cX2_enter : ByteArray := prog_4_method_2_code
def yX2_enter : MethodName := ⟨RX2, "enter", "(IIII)V"⟩
def RX3 : String := "CommitCouncil$Mail"
def TX3 : u_T := fun k => match k with
  | 0 => ("CommitCouncil$Mail", "size", "I", false)
  | 1 => ("CommitCouncil$Mail", "sent", "I", false)
  | 2 => ("CommitCouncil$Mail", "width", "I", true)
  | _ => ("CommitCouncil$Mail", "cells", "[I", true)
def tyX3 : Nat → FieldType := fun k => match k with
  | 0 => .int
  | 1 => .int
  | 2 => .int
  | _ => .array .int
abbrev wsX30 : List Cond := u_ws RX3 TX3 4
theorem nmX3 : ∀ a, a < 4 → ∀ b, b < 4 → a ≠ b → (TX3 a).2.1 ≠ (TX3 b).2.1 := by decide +kernel
theorem tyX3_ok : ∀ k, k < 4 → parseFieldDescriptor (TX3 k).2.2.1 = some (tyX3 k) := by decide +kernel
abbrev cX3_init : ByteArray := prog_5_method_1_code
def yX3_init : MethodName := ⟨RX3, "<init>", "(I)V"⟩
abbrev cX3_hasRoomFor : ByteArray := prog_5_method_2_code
def yX3_hasRoomFor : MethodName := ⟨RX3, "hasRoomFor", "(I)Z"⟩
abbrev cX3_send : ByteArray := prog_5_method_3_code
def yX3_send : MethodName := ⟨RX3, "send", "(IIIIII)V"⟩
abbrev cX3_attach : ByteArray := prog_5_method_4_code
def yX3_attach : MethodName := ⟨RX3, "attach", "([I)V"⟩
abbrev cX3_sendLike : ByteArray := prog_5_method_5_code
def yX3_sendLike : MethodName := ⟨RX3, "sendLike", "(I)V"⟩
abbrev cX3_remove : ByteArray := prog_5_method_6_code
def yX3_remove : MethodName := ⟨RX3, "remove", "(I)V"⟩
abbrev cX3_part : ByteArray := prog_5_method_7_code
def yX3_part : MethodName := ⟨RX3, "part", "(II)I"⟩
abbrev cX3_tidings : ByteArray := prog_5_method_8_code
def yX3_tidings : MethodName := ⟨RX3, "tidings", "(II)I"⟩
def RX4 : String := "CommitCouncil$Manager"
def TX4 : u_T := fun k => match k with
  | 0 => ("CommitCouncil$Member", "up", "Z", false)
  | 1 => ("CommitCouncil$Manager", "state", "I", false)
  | _ => ("CommitCouncil$Manager", "proposed", "I", false)
def tyX4 : Nat → FieldType := fun k => match k with
  | 0 => .boolean
  | 1 => .int
  | _ => .int
abbrev wsX40 : List Cond := u_ws RX4 TX4 3
theorem nmX4 : ∀ a, a < 3 → ∀ b, b < 3 → a ≠ b → (TX4 a).2.1 ≠ (TX4 b).2.1 := by decide +kernel
theorem tyX4_ok : ∀ k, k < 3 → parseFieldDescriptor (TX4 k).2.2.1 = some (tyX4 k) := by decide +kernel
abbrev cX4_init : ByteArray := prog_6_method_1_code
def yX4_init : MethodName := ⟨RX4, "<init>", "()V"⟩
def RX5 : String := "CommitCouncil$Member"
def TX5 : u_T := fun k => match k with
  | _ => ("", "", "", false)
def tyX5 : Nat → FieldType := fun k => match k with
  | _ => .int
abbrev wsX50 : List Cond := u_ws RX5 TX5 0
theorem nmX5 : ∀ a, a < 0 → ∀ b, b < 0 → a ≠ b → (TX5 a).2.1 ≠ (TX5 b).2.1 := by decide +kernel
theorem tyX5_ok : ∀ k, k < 0 → parseFieldDescriptor (TX5 k).2.2.1 = some (tyX5 k) := by decide +kernel
abbrev cX5_init : ByteArray := prog_7_method_1_code
def yX5_init : MethodName := ⟨RX5, "<init>", "()V"⟩
abbrev cX5_forget : ByteArray := prog_7_method_2_code
def yX5_forget : MethodName := ⟨RX5, "forget", "()V"⟩
def RX6 : String := "CommitCouncil"
def TX6 : u_T := fun k => match k with
  | 0 => ("CommitCouncil", "managers", "[LCommitCouncil$Manager;", true)
  | 1 => ("CommitCouncil", "acceptors", "[LCommitCouncil$Acceptor;", true)
  | 2 => ("CommitCouncil", "leaders", "[LCommitCouncil$Leader;", true)
  | 3 => ("CommitCouncil", "mail", "LCommitCouncil$Mail;", true)
  | 4 => ("CommitCouncil", "ledger", "LCommitCouncil$Ledger;", true)
  | 5 => ("CommitCouncil", "came", "I", false)
  | _ => ("CommitCouncil", "begun", "I", false)
def tyX6 : Nat → FieldType := fun k => match k with
  | 0 => .array (.object "CommitCouncil$Manager")
  | 1 => .array (.object "CommitCouncil$Acceptor")
  | 2 => .array (.object "CommitCouncil$Leader")
  | 3 => .object "CommitCouncil$Mail"
  | 4 => .object "CommitCouncil$Ledger"
  | 5 => .int
  | _ => .int
abbrev wsX60 : List Cond := u_ws RX6 TX6 7
theorem nmX6 : ∀ a, a < 7 → ∀ b, b < 7 → a ≠ b → (TX6 a).2.1 ≠ (TX6 b).2.1 := by decide +kernel
theorem tyX6_ok : ∀ k, k < 7 → parseFieldDescriptor (TX6 k).2.2.1 = some (tyX6 k) := by decide +kernel
abbrev cX6_init : ByteArray := prog_1_method_1_code
def yX6_init : MethodName := ⟨RX6, "<init>", "(II)V"⟩
abbrev cX6_prepare : ByteArray := prog_1_method_2_code
def yX6_prepare : MethodName := ⟨RX6, "prepare", "(I)Z"⟩
abbrev cX6_refuse : ByteArray := prog_1_method_3_code
def yX6_refuse : MethodName := ⟨RX6, "refuse", "(I)Z"⟩
abbrev cX6_resend : ByteArray := prog_1_method_4_code
def yX6_resend : MethodName := ⟨RX6, "resend", "(I)Z"⟩
abbrev cX6_question : ByteArray := prog_1_method_5_code
def yX6_question : MethodName := ⟨RX6, "question", "(I)Z"⟩
abbrev cX6_begin : ByteArray := prog_1_method_6_code
def yX6_begin : MethodName := ⟨RX6, "begin", "(I)I"⟩
abbrev cX6_deliver : ByteArray := prog_1_method_7_code
def yX6_deliver : MethodName := ⟨RX6, "deliver", "(I)I"⟩
abbrev cX6_drop : ByteArray := prog_1_method_8_code
def yX6_drop : MethodName := ⟨RX6, "drop", "(I)V"⟩
abbrev cX6_copy : ByteArray := prog_1_method_9_code
def yX6_copy : MethodName := ⟨RX6, "copy", "(I)I"⟩
abbrev cX6_calm : ByteArray := prog_1_method_10_code
def yX6_calm : MethodName := ⟨RX6, "calm", "(I)I"⟩
abbrev cX6_crash : ByteArray := prog_1_method_11_code
def yX6_crash : MethodName := ⟨RX6, "crash", "(II)Z"⟩
abbrev cX6_recover : ByteArray := prog_1_method_12_code
def yX6_recover : MethodName := ⟨RX6, "recover", "(II)Z"⟩
abbrev cX6_message : ByteArray := prog_1_method_13_code
def yX6_message : MethodName := ⟨RX6, "message", "(II)I"⟩
abbrev cX6_told : ByteArray := prog_1_method_14_code
def yX6_told : MethodName := ⟨RX6, "told", "(IIZ)I"⟩
abbrev cX6_manager : ByteArray := prog_1_method_15_code
def yX6_manager : MethodName := ⟨RX6, "manager", "(II)I"⟩
abbrev cX6_acceptor : ByteArray := prog_1_method_16_code
def yX6_acceptor : MethodName := ⟨RX6, "acceptor", "(III)I"⟩
abbrev cX6_leader : ByteArray := prog_1_method_17_code
def yX6_leader : MethodName := ⟨RX6, "leader", "(II)I"⟩
abbrev cX6_outcome : ByteArray := prog_1_method_18_code
def yX6_outcome : MethodName := ⟨RX6, "outcome", "(II)I"⟩
abbrev cX6_seen : ByteArray := prog_1_method_19_code
def yX6_seen : MethodName := ⟨RX6, "seen", "(III)I"⟩
abbrev cX6_chosen : ByteArray := prog_1_method_20_code
def yX6_chosen : MethodName := ⟨RX6, "chosen", "(I)I"⟩
abbrev cX6_count : ByteArray := prog_1_method_21_code
def yX6_count : MethodName := ⟨RX6, "count", "(I)I"⟩
abbrev cX6_astray : ByteArray := prog_1_method_22_code
def yX6_astray : MethodName := ⟨RX6, "astray", "()I"⟩
abbrev cX6_checkOne : ByteArray := prog_1_method_23_code
def yX6_checkOne : MethodName := ⟨RX6, "checkOne", "(II)V"⟩
abbrev cX6_voteOf : ByteArray := prog_1_method_24_code
def yX6_voteOf : MethodName := ⟨RX6, "voteOf", "(II)I"⟩
abbrev cX6_ballotOf : ByteArray := prog_1_method_25_code
def yX6_ballotOf : MethodName := ⟨RX6, "ballotOf", "(I)I"⟩
abbrev cX6_wordOf : ByteArray := prog_1_method_26_code
def yX6_wordOf : MethodName := ⟨RX6, "wordOf", "(I)I"⟩
abbrev cX6_leastOwnAbove : ByteArray := prog_1_method_27_code
def yX6_leastOwnAbove : MethodName := ⟨RX6, "leastOwnAbove", "(II)I"⟩
abbrev cX6_leaderOf : ByteArray := prog_1_method_28_code
def yX6_leaderOf : MethodName := ⟨RX6, "leaderOf", "(I)I"⟩
abbrev cX6_howManyUp : ByteArray := prog_1_method_29_code
def yX6_howManyUp : MethodName := ⟨RX6, "howManyUp", "(II)I"⟩
abbrev cX6_howManyManagers : ByteArray := prog_1_method_30_code
def yX6_howManyManagers : MethodName := ⟨RX6, "howManyManagers", "(I)I"⟩
abbrev cX6_isBackedByChosen : ByteArray := prog_1_method_31_code
def yX6_isBackedByChosen : MethodName := ⟨RX6, "isBackedByChosen", "(I)Z"⟩
abbrev cX6_memberOf : ByteArray := prog_1_method_32_code
def yX6_memberOf : MethodName := ⟨RX6, "memberOf", "(II)LCommitCouncil$Member;"⟩
abbrev cX6_propose : ByteArray := prog_1_method_33_code
def yX6_propose : MethodName := ⟨RX6, "propose", "(III)Z"⟩
abbrev cX6_sendVotes : ByteArray := prog_1_method_34_code
def yX6_sendVotes : MethodName := ⟨RX6, "sendVotes", "(III)V"⟩
abbrev cX6_sendDecisions : ByteArray := prog_1_method_35_code
def yX6_sendDecisions : MethodName := ⟨RX6, "sendDecisions", "(I)V"⟩
abbrev cX6_bring : ByteArray := prog_1_method_36_code
def yX6_bring : MethodName := ⟨RX6, "bring", "(I)I"⟩
abbrev cX6_isUp : ByteArray := prog_1_method_37_code
def yX6_isUp : MethodName := ⟨RX6, "isUp", "(II)Z"⟩
abbrev cX6_answersTo : ByteArray := prog_1_method_38_code
def yX6_answersTo : MethodName := ⟨RX6, "answersTo", "(III)I"⟩
abbrev cX6_take : ByteArray := prog_1_method_39_code
def yX6_take : MethodName := ⟨RX6, "take", "(III)V"⟩
abbrev cX6_takeVote : ByteArray := prog_1_method_40_code
def yX6_takeVote : MethodName := ⟨RX6, "takeVote", "(II)V"⟩
abbrev cX6_takeAsk : ByteArray := prog_1_method_41_code
def yX6_takeAsk : MethodName := ⟨RX6, "takeAsk", "(II)V"⟩
abbrev cX6_takeVoted : ByteArray := prog_1_method_42_code
def yX6_takeVoted : MethodName := ⟨RX6, "takeVoted", "(ILCommitCouncil$Leader;)V"⟩
abbrev cX6_takeTold : ByteArray := prog_1_method_43_code
def yX6_takeTold : MethodName := ⟨RX6, "takeTold", "(ILCommitCouncil$Leader;)V"⟩
abbrev cX6_startVoting : ByteArray := prog_1_method_44_code
def yX6_startVoting : MethodName := ⟨RX6, "startVoting", "(LCommitCouncil$Leader;)V"⟩
abbrev cX6_takeQuestion : ByteArray := prog_1_method_45_code
def yX6_takeQuestion : MethodName := ⟨RX6, "takeQuestion", "(II)V"⟩
def RX7 : String := "CommitCouncilModel"
def TX7 : u_T := fun k => match k with
  | 0 => ("CommitCouncilModel", "thrown", "I", false)
  | 1 => ("CommitCouncilModel", "managers", "I", true)
  | 2 => ("CommitCouncilModel", "acceptors", "I", true)
  | 3 => ("CommitCouncilModel", "message", "[I", true)
  | 4 => ("CommitCouncilModel", "made", "[I", true)
  | 5 => ("CommitCouncilModel", "many", "I", false)
  | 6 => ("CommitCouncilModel", "sent", "I", false)
  | 7 => ("CommitCouncilModel", "came", "I", false)
  | 8 => ("CommitCouncilModel", "begun", "I", false)
  | 9 => ("CommitCouncilModel", "how", "[I", true)
  | 10 => ("CommitCouncilModel", "up", "[[Z", true)
  | 11 => ("CommitCouncilModel", "promised", "[I", true)
  | 12 => ("CommitCouncilModel", "acceptedBallot", "[I", true)
  | 13 => ("CommitCouncilModel", "acceptedWord", "[I", true)
  | 14 => ("CommitCouncilModel", "ever", "[I", true)
  | 15 => ("CommitCouncilModel", "everWord", "[I", true)
  | 16 => ("CommitCouncilModel", "ballot", "[I", true)
  | 17 => ("CommitCouncilModel", "phase", "[I", true)
  | 18 => ("CommitCouncilModel", "highest", "[I", true)
  | 19 => ("CommitCouncilModel", "decision", "[I", true)
  | 20 => ("CommitCouncilModel", "told", "[I", true)
  | 21 => ("CommitCouncilModel", "toldBallot", "[I", true)
  | 22 => ("CommitCouncilModel", "toldWord", "[I", true)
  | 23 => ("CommitCouncilModel", "seenBallot", "[I", true)
  | 24 => ("CommitCouncilModel", "seenWord", "[I", true)
  | _ => ("CommitCouncilModel", "outcome", "[I", true)
def tyX7 : Nat → FieldType := fun k => match k with
  | 0 => .int
  | 1 => .int
  | 2 => .int
  | 3 => .array .int
  | 4 => .array .int
  | 5 => .int
  | 6 => .int
  | 7 => .int
  | 8 => .int
  | 9 => .array .int
  | 10 => .array (.array .boolean)
  | 11 => .array .int
  | 12 => .array .int
  | 13 => .array .int
  | 14 => .array .int
  | 15 => .array .int
  | 16 => .array .int
  | 17 => .array .int
  | 18 => .array .int
  | 19 => .array .int
  | 20 => .array .int
  | 21 => .array .int
  | 22 => .array .int
  | 23 => .array .int
  | 24 => .array .int
  | _ => .array .int
abbrev wsX70 : List Cond := u_ws RX7 TX7 26
theorem nmX7 : ∀ a, a < 26 → ∀ b, b < 26 → a ≠ b → (TX7 a).2.1 ≠ (TX7 b).2.1 := by decide +kernel
theorem tyX7_ok : ∀ k, k < 26 → parseFieldDescriptor (TX7 k).2.2.1 = some (tyX7 k) := by decide +kernel
abbrev cX7_init : ByteArray := prog_9_method_1_code
def yX7_init : MethodName := ⟨RX7, "<init>", "(II)V"⟩
abbrev cX7_thrown : ByteArray := prog_9_method_2_code
def yX7_thrown : MethodName := ⟨RX7, "thrown", "()I"⟩
abbrev cX7_lacks : ByteArray := prog_9_method_3_code
def yX7_lacks : MethodName := ⟨RX7, "lacks", "(Z)Z"⟩
abbrev cX7_isManager : ByteArray := prog_9_method_4_code
def yX7_isManager : MethodName := ⟨RX7, "isManager", "(I)Z"⟩
abbrev cX7_isAcceptor : ByteArray := prog_9_method_5_code
def yX7_isAcceptor : MethodName := ⟨RX7, "isAcceptor", "(I)Z"⟩
abbrev cX7_isLeader : ByteArray := prog_9_method_6_code
def yX7_isLeader : MethodName := ⟨RX7, "isLeader", "(I)Z"⟩
abbrev cX7_isMessage : ByteArray := prog_9_method_7_code
def yX7_isMessage : MethodName := ⟨RX7, "isMessage", "(I)Z"⟩
abbrev cX7_of : ByteArray := prog_9_method_8_code
def yX7_of : MethodName := ⟨RX7, "of", "(II)I"⟩
abbrev cX7_sends : ByteArray := prog_9_method_9_code
def yX7_sends : MethodName := ⟨RX7, "sends", "(IIIIII)V"⟩
abbrev cX7_votes : ByteArray := prog_9_method_10_code
def yX7_votes : MethodName := ⟨RX7, "votes", "(III)V"⟩
abbrev cX7_hasRoom : ByteArray := prog_9_method_11_code
def yX7_hasRoom : MethodName := ⟨RX7, "hasRoom", "(I)Z"⟩
abbrev cX7_becomes : ByteArray := prog_9_method_12_code
def yX7_becomes : MethodName := ⟨RX7, "becomes", "(II)Z"⟩
abbrev cX7_prepare : ByteArray := prog_9_method_13_code
def yX7_prepare : MethodName := ⟨RX7, "prepare", "(I)Z"⟩
abbrev cX7_refuse : ByteArray := prog_9_method_14_code
def yX7_refuse : MethodName := ⟨RX7, "refuse", "(I)Z"⟩
abbrev cX7_resend : ByteArray := prog_9_method_15_code
def yX7_resend : MethodName := ⟨RX7, "resend", "(I)Z"⟩
abbrev cX7_question : ByteArray := prog_9_method_16_code
def yX7_question : MethodName := ⟨RX7, "question", "(I)Z"⟩
abbrev cX7_begin : ByteArray := prog_9_method_17_code
def yX7_begin : MethodName := ⟨RX7, "begin", "(I)I"⟩
abbrev cX7_remove : ByteArray := prog_9_method_18_code
def yX7_remove : MethodName := ⟨RX7, "remove", "(I)V"⟩
abbrev cX7_bits : ByteArray := prog_9_method_19_code
def yX7_bits : MethodName := ⟨RX7, "bits", "(I)I"⟩
abbrev cX7_isMost : ByteArray := prog_9_method_20_code
def yX7_isMost : MethodName := ⟨RX7, "isMost", "(I)Z"⟩
abbrev cX7_leadsTo : ByteArray := prog_9_method_21_code
def yX7_leadsTo : MethodName := ⟨RX7, "leadsTo", "(I)I"⟩
abbrev cX7_seenAt : ByteArray := prog_9_method_22_code
def yX7_seenAt : MethodName := ⟨RX7, "seenAt", "(III)I"⟩
abbrev cX7_settled : ByteArray := prog_9_method_23_code
def yX7_settled : MethodName := ⟨RX7, "settled", "(III)I"⟩
abbrev cX7_isNew : ByteArray := prog_9_method_24_code
def yX7_isNew : MethodName := ⟨RX7, "isNew", "(IIII)Z"⟩
abbrev cX7_ballotSeen : ByteArray := prog_9_method_25_code
def yX7_ballotSeen : MethodName := ⟨RX7, "ballotSeen", "(IIII)I"⟩
abbrev cX7_decided : ByteArray := prog_9_method_26_code
def yX7_decided : MethodName := ⟨RX7, "decided", "(II)I"⟩
abbrev cX7_decides : ByteArray := prog_9_method_27_code
def yX7_decides : MethodName := ⟨RX7, "decides", "(I)Z"⟩
abbrev cX7_deliver : ByteArray := prog_9_method_28_code
def yX7_deliver : MethodName := ⟨RX7, "deliver", "(I)I"⟩
abbrev cX7_comes : ByteArray := prog_9_method_29_code
def yX7_comes : MethodName := ⟨RX7, "comes", "(I)I"⟩
abbrev cX7_voteComes : ByteArray := prog_9_method_30_code
def yX7_voteComes : MethodName := ⟨RX7, "voteComes", "(I)V"⟩
abbrev cX7_askComes : ByteArray := prog_9_method_31_code
def yX7_askComes : MethodName := ⟨RX7, "askComes", "(I)V"⟩
abbrev cX7_toldComes : ByteArray := prog_9_method_32_code
def yX7_toldComes : MethodName := ⟨RX7, "toldComes", "(I)V"⟩
abbrev cX7_votedComes : ByteArray := prog_9_method_33_code
def yX7_votedComes : MethodName := ⟨RX7, "votedComes", "(IZ)V"⟩
abbrev cX7_drop : ByteArray := prog_9_method_34_code
def yX7_drop : MethodName := ⟨RX7, "drop", "(I)V"⟩
abbrev cX7_copy : ByteArray := prog_9_method_35_code
def yX7_copy : MethodName := ⟨RX7, "copy", "(I)I"⟩
abbrev cX7_calm : ByteArray := prog_9_method_36_code
def yX7_calm : MethodName := ⟨RX7, "calm", "(I)I"⟩
abbrev cX7_manyOf : ByteArray := prog_9_method_37_code
def yX7_manyOf : MethodName := ⟨RX7, "manyOf", "(I)I"⟩
abbrev cX7_turns : ByteArray := prog_9_method_38_code
def yX7_turns : MethodName := ⟨RX7, "turns", "(IIZ)Z"⟩
abbrev cX7_crash : ByteArray := prog_9_method_39_code
def yX7_crash : MethodName := ⟨RX7, "crash", "(II)Z"⟩
abbrev cX7_recover : ByteArray := prog_9_method_40_code
def yX7_recover : MethodName := ⟨RX7, "recover", "(II)Z"⟩
abbrev cX7_message : ByteArray := prog_9_method_41_code
def yX7_message : MethodName := ⟨RX7, "message", "(II)I"⟩
abbrev cX7_told : ByteArray := prog_9_method_42_code
def yX7_told : MethodName := ⟨RX7, "told", "(IIZ)I"⟩
abbrev cX7_manager : ByteArray := prog_9_method_43_code
def yX7_manager : MethodName := ⟨RX7, "manager", "(II)I"⟩
abbrev cX7_acceptor : ByteArray := prog_9_method_44_code
def yX7_acceptor : MethodName := ⟨RX7, "acceptor", "(III)I"⟩
abbrev cX7_leader : ByteArray := prog_9_method_45_code
def yX7_leader : MethodName := ⟨RX7, "leader", "(II)I"⟩
abbrev cX7_outcome : ByteArray := prog_9_method_46_code
def yX7_outcome : MethodName := ⟨RX7, "outcome", "(II)I"⟩
abbrev cX7_seen : ByteArray := prog_9_method_47_code
def yX7_seen : MethodName := ⟨RX7, "seen", "(III)I"⟩
abbrev cX7_chosen : ByteArray := prog_9_method_48_code
def yX7_chosen : MethodName := ⟨RX7, "chosen", "(I)I"⟩
abbrev cX7_count : ByteArray := prog_9_method_49_code
def yX7_count : MethodName := ⟨RX7, "count", "(I)I"⟩
abbrev cX7_astray : ByteArray := prog_9_method_50_code
def yX7_astray : MethodName := ⟨RX7, "astray", "()I"⟩
def RJ6 : String := "java/lang/Integer"
def TJ6 : u_T := fun k => match k with
  | _ => ("", "", "", false)
def tyJ6 : Nat → FieldType := fun k => match k with
  | _ => .int
abbrev wsJ60 : List Cond := u_ws RJ6 TJ6 0
theorem nmJ6 : ∀ a, a < 0 → ∀ b, b < 0 → a ≠ b → (TJ6 a).2.1 ≠ (TJ6 b).2.1 := by decide +kernel
theorem tyJ6_ok : ∀ k, k < 0 → parseFieldDescriptor (TJ6 k).2.2.1 = some (tyJ6 k) := by decide +kernel
abbrev cJ6_bitCount_0f7a4 : ByteArray := prog_13_method_49_code
def yJ6_bitCount_0f7a4 : MethodName := ⟨RJ6, "bitCount", "(I)I"⟩
def RJ9 : String := "java/lang/Math"
def TJ9 : u_T := fun k => match k with
  | _ => ("", "", "", false)
def tyJ9 : Nat → FieldType := fun k => match k with
  | _ => .int
abbrev wsJ90 : List Cond := u_ws RJ9 TJ9 0
theorem nmJ9 : ∀ a, a < 0 → ∀ b, b < 0 → a ≠ b → (TJ9 a).2.1 ≠ (TJ9 b).2.1 := by decide +kernel
theorem tyJ9_ok : ∀ k, k < 0 → parseFieldDescriptor (TJ9 k).2.2.1 = some (tyJ9 k) := by decide +kernel
abbrev cJ9_floorMod_7cf53 : ByteArray := prog_14_method_50_code
def yJ9_floorMod_7cf53 : MethodName := ⟨RJ9, "floorMod", "(II)I"⟩
abbrev cJ9_max_7cf53 : ByteArray := prog_14_method_65_code
def yJ9_max_7cf53 : MethodName := ⟨RJ9, "max", "(II)I"⟩
def RJ0 : String := "java/lang/String"
def TJ0 : u_T := fun k => match k with
  | _ => ("", "", "", false)
def tyJ0 : Nat → FieldType := fun k => match k with
  | _ => .int
abbrev wsJ00 : List Cond := u_ws RJ0 TJ0 0
theorem nmJ0 : ∀ a, a < 0 → ∀ b, b < 0 → a ≠ b → (TJ0 a).2.1 ≠ (TJ0 b).2.1 := by decide +kernel
theorem tyJ0_ok : ∀ k, k < 0 → parseFieldDescriptor (TJ0 k).2.2.1 = some (tyJ0 k) := by decide +kernel
def RJ10 : String := "java/lang/System"
def TJ10 : u_T := fun k => match k with
  | _ => ("", "", "", false)
def tyJ10 : Nat → FieldType := fun k => match k with
  | _ => .int
abbrev wsJ100 : List Cond := u_ws RJ10 TJ10 0
theorem nmJ10 : ∀ a, a < 0 → ∀ b, b < 0 → a ≠ b → (TJ10 a).2.1 ≠ (TJ10 b).2.1 := by decide +kernel
theorem tyJ10_ok : ∀ k, k < 0 → parseFieldDescriptor (TJ10 k).2.2.1 = some (tyJ10 k) := by decide +kernel
def RJ7 : String := "java/util/Arrays"
def TJ7 : u_T := fun k => match k with
  | _ => ("", "", "", false)
def tyJ7 : Nat → FieldType := fun k => match k with
  | _ => .int
abbrev wsJ70 : List Cond := u_ws RJ7 TJ7 0
theorem nmJ7 : ∀ a, a < 0 → ∀ b, b < 0 → a ≠ b → (TJ7 a).2.1 ≠ (TJ7 b).2.1 := by decide +kernel
theorem tyJ7_ok : ∀ k, k < 0 → parseFieldDescriptor (TJ7 k).2.2.1 = some (tyJ7 k) := by decide +kernel
abbrev cJ7_fill_53178 : ByteArray := prog_19_method_103_code
def yJ7_fill_53178 : MethodName := ⟨RJ7, "fill", "([II)V"⟩
def RL : String := "CommitCouncilLaw"
abbrev cL_cell : ByteArray := method_2_code
def yL_cell : MethodName := ⟨RL, "cell", "([II)I"⟩
abbrev cL_prepare : ByteArray := method_3_code
def yL_prepare : MethodName := ⟨RL, "prepare", "(LCommitCouncil;I[J)I"⟩
abbrev cL_refuse : ByteArray := method_4_code
def yL_refuse : MethodName := ⟨RL, "refuse", "(LCommitCouncil;I[J)I"⟩
abbrev cL_resend : ByteArray := method_5_code
def yL_resend : MethodName := ⟨RL, "resend", "(LCommitCouncil;I[J)I"⟩
abbrev cL_question : ByteArray := method_6_code
def yL_question : MethodName := ⟨RL, "question", "(LCommitCouncil;I[J)I"⟩
abbrev cL_begin : ByteArray := method_7_code
def yL_begin : MethodName := ⟨RL, "begin", "(LCommitCouncil;I[J)I"⟩
abbrev cL_deliver : ByteArray := method_8_code
def yL_deliver : MethodName := ⟨RL, "deliver", "(LCommitCouncil;I[J)I"⟩
abbrev cL_drop : ByteArray := method_9_code
def yL_drop : MethodName := ⟨RL, "drop", "(LCommitCouncil;I)I"⟩
abbrev cL_copy : ByteArray := method_10_code
def yL_copy : MethodName := ⟨RL, "copy", "(LCommitCouncil;I[J)I"⟩
abbrev cL_calm : ByteArray := method_11_code
def yL_calm : MethodName := ⟨RL, "calm", "(LCommitCouncil;I[J)I"⟩
abbrev cL_crash : ByteArray := method_12_code
def yL_crash : MethodName := ⟨RL, "crash", "(LCommitCouncil;II[J)I"⟩
abbrev cL_recover : ByteArray := method_13_code
def yL_recover : MethodName := ⟨RL, "recover", "(LCommitCouncil;II[J)I"⟩
abbrev cL_message : ByteArray := method_14_code
def yL_message : MethodName := ⟨RL, "message", "(LCommitCouncil;II[J)I"⟩
abbrev cL_told : ByteArray := method_15_code
def yL_told : MethodName := ⟨RL, "told", "(LCommitCouncil;IIZ[J)I"⟩
abbrev cL_manager : ByteArray := method_16_code
def yL_manager : MethodName := ⟨RL, "manager", "(LCommitCouncil;II[J)I"⟩
abbrev cL_acceptor : ByteArray := method_17_code
def yL_acceptor : MethodName := ⟨RL, "acceptor", "(LCommitCouncil;III[J)I"⟩
abbrev cL_leader : ByteArray := method_18_code
def yL_leader : MethodName := ⟨RL, "leader", "(LCommitCouncil;II[J)I"⟩
abbrev cL_outcome : ByteArray := method_19_code
def yL_outcome : MethodName := ⟨RL, "outcome", "(LCommitCouncil;II[J)I"⟩
abbrev cL_seen : ByteArray := method_20_code
def yL_seen : MethodName := ⟨RL, "seen", "(LCommitCouncil;III[J)I"⟩
abbrev cL_chosen : ByteArray := method_21_code
def yL_chosen : MethodName := ⟨RL, "chosen", "(LCommitCouncil;I[J)I"⟩
abbrev cL_law : ByteArray := code
def yL_law : MethodName := ⟨RL, "law", "([I)Z"⟩
def wsX5_init : List Cond := .code yX5_init cX5_init 1 none :: ([.methodLink RX5 1 objectInit, .instanceMethod objectInit, .code objectInit ⟨#[0xb1]⟩ 1 none, .fieldLink RX5 7 "CommitCouncil$Member" "up" "Z"] ++ wsX00 ++ wsX10 ++ wsX40)
def wsX0_init : List Cond := .code yX0_init cX0_init 2 none :: ([.arrayClass .int, .fieldLink RX0 7 "CommitCouncil$Acceptor" "accepted" "[I", .instanceMethod yX5_init, .initialized RX5, .code yX5_init cX5_init 1 none, .methodLink RX5 1 objectInit, .instanceMethod objectInit, .code objectInit ⟨#[0xb1]⟩ 1 none, .fieldLink RX5 7 "CommitCouncil$Member" "up" "Z"] ++ wsX00 ++ wsX10 ++ wsX40)
def wsX6_voteOf : List Cond := .code yX6_voteOf cX6_voteOf 2 (some .int) :: ([])
def wsX0_accept : List Cond := .code yX0_accept cX0_accept 4 none :: ([.fieldLink RX0 13 "CommitCouncil$Acceptor" "promised" "I", .fieldLink RX0 7 "CommitCouncil$Acceptor" "accepted" "[I", .static yX6_voteOf, .initialized RX6, .code yX6_voteOf cX6_voteOf 2 (some .int)] ++ wsX00)
def wsX1_init : List Cond := .code yX1_init cX1_init 3 none :: ([.fieldLink RX1 9 "CommitCouncil$Leader" "acceptorCount" "I", .arrayClass .int, .fieldLink RX1 15 "CommitCouncil$Leader" "latest" "[I", .fieldLink RX1 19 "CommitCouncil$Leader" "outcomes" "[I", .fieldLink RX1 22 "CommitCouncil$Leader" "sights" "[I", .instanceMethod yX5_init, .initialized RX5, .code yX5_init cX5_init 1 none, .methodLink RX5 1 objectInit, .instanceMethod objectInit, .code objectInit ⟨#[0xb1]⟩ 1 none, .fieldLink RX5 7 "CommitCouncil$Member" "up" "Z"] ++ wsX10 ++ wsX00 ++ wsX40)
def wsJ7_fill_53178 : List Cond := .code yJ7_fill_53178 cJ7_fill_53178 4 none :: ([])
def wsX1_startAsking : List Cond := .code yX1_startAsking cX1_startAsking 2 none :: ([.fieldLink RX1 25 "CommitCouncil$Leader" "ballot" "I", .fieldLink RX1 28 "CommitCouncil$Leader" "highest" "I", .fieldLink RX1 31 "CommitCouncil$Leader" "phase" "I", .fieldLink RX1 34 "CommitCouncil$Leader" "toldBy" "I", .fieldLink RX1 15 "CommitCouncil$Leader" "latest" "[I", .methodLink RX1 37 yJ7_fill_53178, .static yJ7_fill_53178, .initialized RJ7, .code yJ7_fill_53178 cJ7_fill_53178 4 none] ++ wsX10)
def wsX1_keeps : List Cond := .code yX1_keeps cX1_keeps 3 (some .boolean) :: ([.fieldLink RX1 31 "CommitCouncil$Leader" "phase" "I", .fieldLink RX1 25 "CommitCouncil$Leader" "ballot" "I", .fieldLink RX1 34 "CommitCouncil$Leader" "toldBy" "I"] ++ wsX10)
def wsJ6_bitCount_0f7a4 : List Cond := .code yJ6_bitCount_0f7a4 cJ6_bitCount_0f7a4 1 (some .int) :: ([.constant RJ6 265 (1431655765), .constant RJ6 266 (858993459), .constant RJ6 267 (252645135)])
def wsX1_oneMoreIsEnough : List Cond := .code yX1_oneMoreIsEnough cX1_oneMoreIsEnough 1 (some .boolean) :: ([.fieldLink RX1 34 "CommitCouncil$Leader" "toldBy" "I", .fieldLink RX1 9 "CommitCouncil$Leader" "acceptorCount" "I", .methodLink RX1 43 yJ6_bitCount_0f7a4, .static yJ6_bitCount_0f7a4, .initialized RJ6, .code yJ6_bitCount_0f7a4 cJ6_bitCount_0f7a4 1 (some .int), .constant RJ6 265 (1431655765), .constant RJ6 266 (858993459), .constant RJ6 267 (252645135)] ++ wsX10)
def wsX1_sightOf : List Cond := .code yX1_sightOf cX1_sightOf 4 (some .int) :: ([.fieldLink RX1 9 "CommitCouncil$Leader" "acceptorCount" "I", .fieldLink RX1 22 "CommitCouncil$Leader" "sights" "[I"] ++ wsX10)
def wsX6_ballotOf : List Cond := .code yX6_ballotOf cX6_ballotOf 1 (some .int) :: ([])
def wsX6_wordOf : List Cond := .code yX6_wordOf cX6_wordOf 1 (some .int) :: ([])
def wsX1_outcomeAfter : List Cond := .code yX1_outcomeAfter cX1_outcomeAfter 6 (some .int) :: ([.fieldLink RX1 19 "CommitCouncil$Leader" "outcomes" "[I", .fieldLink RX1 9 "CommitCouncil$Leader" "acceptorCount" "I", .static yX6_ballotOf, .initialized RX6, .code yX6_ballotOf cX6_ballotOf 1 (some .int), .methodLink RX1 62 yX1_sightOf, .instanceMethod yX1_sightOf, .selects RX1 yX1_sightOf yX1_sightOf, .initialized RX1, .code yX1_sightOf cX1_sightOf 4 (some .int), .fieldLink RX1 22 "CommitCouncil$Leader" "sights" "[I", .static yX6_wordOf, .code yX6_wordOf cX6_wordOf 1 (some .int)] ++ wsX10)
def wsX1_decisionAfter : List Cond := .code yX1_decisionAfter cX1_decisionAfter 6 (some .int) :: ([.fieldLink RX1 49 "CommitCouncil$Leader" "decision" "I", .fieldLink RX1 19 "CommitCouncil$Leader" "outcomes" "[I", .methodLink RX1 52 yX1_outcomeAfter, .instanceMethod yX1_outcomeAfter, .selects RX1 yX1_outcomeAfter yX1_outcomeAfter, .initialized RX1, .code yX1_outcomeAfter cX1_outcomeAfter 6 (some .int), .fieldLink RX1 9 "CommitCouncil$Leader" "acceptorCount" "I", .static yX6_ballotOf, .initialized RX6, .code yX6_ballotOf cX6_ballotOf 1 (some .int), .methodLink RX1 62 yX1_sightOf, .instanceMethod yX1_sightOf, .selects RX1 yX1_sightOf yX1_sightOf, .code yX1_sightOf cX1_sightOf 4 (some .int), .fieldLink RX1 22 "CommitCouncil$Leader" "sights" "[I", .static yX6_wordOf, .code yX6_wordOf cX6_wordOf 1 (some .int)] ++ wsX10)
def wsX1_see : List Cond := .code yX1_see cX1_see 7 none :: ([.fieldLink RX1 9 "CommitCouncil$Leader" "acceptorCount" "I", .fieldLink RX1 19 "CommitCouncil$Leader" "outcomes" "[I", .fieldLink RX1 22 "CommitCouncil$Leader" "sights" "[I", .fieldLink RX1 49 "CommitCouncil$Leader" "decision" "I", .methodLink RX1 52 yX1_outcomeAfter, .instanceMethod yX1_outcomeAfter, .selects RX1 yX1_outcomeAfter yX1_outcomeAfter, .initialized RX1, .code yX1_outcomeAfter cX1_outcomeAfter 6 (some .int), .static yX6_ballotOf, .initialized RX6, .code yX6_ballotOf cX6_ballotOf 1 (some .int), .methodLink RX1 62 yX1_sightOf, .instanceMethod yX1_sightOf, .selects RX1 yX1_sightOf yX1_sightOf, .code yX1_sightOf cX1_sightOf 4 (some .int), .static yX6_wordOf, .code yX6_wordOf cX6_wordOf 1 (some .int), .methodLink RX1 56 yX1_decisionAfter, .instanceMethod yX1_decisionAfter, .selects RX1 yX1_decisionAfter yX1_decisionAfter, .code yX1_decisionAfter cX1_decisionAfter 6 (some .int)] ++ wsX10)
def wsX1_forget : List Cond := .code yX1_forget cX1_forget 1 none :: ([.fieldLink RX1 31 "CommitCouncil$Leader" "phase" "I", .fieldLink RX1 49 "CommitCouncil$Leader" "decision" "I", .fieldLink RX1 34 "CommitCouncil$Leader" "toldBy" "I", .fieldLink RX1 15 "CommitCouncil$Leader" "latest" "[I", .fieldLink RX1 19 "CommitCouncil$Leader" "outcomes" "[I", .fieldLink RX1 22 "CommitCouncil$Leader" "sights" "[I", .methodLink RX1 37 yJ7_fill_53178, .static yJ7_fill_53178, .initialized RJ7, .code yJ7_fill_53178 cJ7_fill_53178 4 none] ++ wsX10)
def wsX2_init : List Cond := .code yX2_init cX2_init 3 none :: ([.methodLink RX2 3 objectInit, .instanceMethod objectInit, .code objectInit ⟨#[0xb1]⟩ 1 none, .fieldLink RX2 9 "CommitCouncil$Ledger" "acceptorCount" "I", .arrayClass .int, .fieldLink RX2 15 "CommitCouncil$Ledger" "words" "[I", .arrayClass .boolean, .fieldLink RX2 19 "CommitCouncil$Ledger" "unlike" "[Z", .fieldLink RX2 23 "CommitCouncil$Ledger" "takers" "[I"] ++ wsX20)
def wsX2_enter : List Cond := .code yX2_enter cX2_enter 7 none :: ([.fieldLink RX2 15 "CommitCouncil$Ledger" "words" "[I", .fieldLink RX2 23 "CommitCouncil$Ledger" "takers" "[I", .fieldLink RX2 9 "CommitCouncil$Ledger" "acceptorCount" "I", .fieldLink RX2 19 "CommitCouncil$Ledger" "unlike" "[Z", .methodLink RX2 26 yJ6_bitCount_0f7a4, .static yJ6_bitCount_0f7a4, .initialized RJ6, .code yJ6_bitCount_0f7a4 cJ6_bitCount_0f7a4 1 (some .int), .constant RJ6 265 (1431655765), .constant RJ6 266 (858993459), .constant RJ6 267 (252645135)] ++ wsX20)
def wsX3_init : List Cond := .code yX3_init cX3_init 2 none :: ([.methodLink RX3 5 objectInit, .instanceMethod objectInit, .code objectInit ⟨#[0xb1]⟩ 1 none, .fieldLink RX3 11 "CommitCouncil$Mail" "width" "I", .arrayClass .int, .fieldLink RX3 15 "CommitCouncil$Mail" "cells" "[I"] ++ wsX30)
def wsX3_hasRoomFor : List Cond := .code yX3_hasRoomFor cX3_hasRoomFor 2 (some .boolean) :: ([.fieldLink RX3 19 "CommitCouncil$Mail" "size" "I"] ++ wsX30)
def wsX3_send : List Cond := .code yX3_send cX3_send 8 none :: ([.fieldLink RX3 19 "CommitCouncil$Mail" "size" "I", .fieldLink RX3 11 "CommitCouncil$Mail" "width" "I", .fieldLink RX3 15 "CommitCouncil$Mail" "cells" "[I", .fieldLink RX3 22 "CommitCouncil$Mail" "sent" "I"] ++ wsX30)
def wsX3_attach : List Cond := .code yX3_attach cX3_attach 2 none :: ([.fieldLink RX3 19 "CommitCouncil$Mail" "size" "I", .fieldLink RX3 11 "CommitCouncil$Mail" "width" "I", .fieldLink RX3 15 "CommitCouncil$Mail" "cells" "[I", .methodLink RX3 25 arraycopyName, .native arraycopyName, .static arraycopyName, .initialized "java/lang/System"] ++ wsX30)
def wsX3_sendLike : List Cond := .code yX3_sendLike cX3_sendLike 2 none :: ([.fieldLink RX3 19 "CommitCouncil$Mail" "size" "I", .fieldLink RX3 15 "CommitCouncil$Mail" "cells" "[I", .fieldLink RX3 11 "CommitCouncil$Mail" "width" "I", .methodLink RX3 25 arraycopyName, .native arraycopyName, .static arraycopyName, .initialized "java/lang/System", .fieldLink RX3 22 "CommitCouncil$Mail" "sent" "I"] ++ wsX30)
def wsX3_remove : List Cond := .code yX3_remove cX3_remove 2 none :: ([.fieldLink RX3 19 "CommitCouncil$Mail" "size" "I", .fieldLink RX3 15 "CommitCouncil$Mail" "cells" "[I", .fieldLink RX3 11 "CommitCouncil$Mail" "width" "I", .methodLink RX3 25 arraycopyName, .native arraycopyName, .static arraycopyName, .initialized "java/lang/System"] ++ wsX30)
def wsX3_part : List Cond := .code yX3_part cX3_part 3 (some .int) :: ([.fieldLink RX3 19 "CommitCouncil$Mail" "size" "I", .fieldLink RX3 15 "CommitCouncil$Mail" "cells" "[I", .fieldLink RX3 11 "CommitCouncil$Mail" "width" "I"] ++ wsX30)
def wsX3_tidings : List Cond := .code yX3_tidings cX3_tidings 3 (some .int) :: ([.fieldLink RX3 19 "CommitCouncil$Mail" "size" "I", .fieldLink RX3 11 "CommitCouncil$Mail" "width" "I", .fieldLink RX3 15 "CommitCouncil$Mail" "cells" "[I"] ++ wsX30)
def wsX4_init : List Cond := .code yX4_init cX4_init 1 none :: ([.fieldLink RX4 9 "CommitCouncil$Manager" "state" "I", .instanceMethod yX5_init, .initialized RX5, .code yX5_init cX5_init 1 none, .methodLink RX5 1 objectInit, .instanceMethod objectInit, .code objectInit ⟨#[0xb1]⟩ 1 none, .fieldLink RX5 7 "CommitCouncil$Member" "up" "Z"] ++ wsX40 ++ wsX00 ++ wsX10)
def wsX5_forget : List Cond := .code yX5_forget cX5_forget 1 none :: ([])
def wsX6_init_r1 : List Cond := [Cond.methodLink RX6 1 objectInit, Cond.instanceMethod objectInit, Cond.code objectInit ⟨#[0xb1]⟩ 1 none, Cond.classLink RX6 9 RX4, Cond.fieldLink RX6 11 "CommitCouncil" "managers" "[LCommitCouncil$Manager;", Cond.instantiable RX4 3, Cond.initialized RX4, Cond.classLink RX6 16 RX0, Cond.fieldLink RX6 18 "CommitCouncil" "acceptors" "[LCommitCouncil$Acceptor;", Cond.instantiable RX0 3, Cond.initialized RX0, Cond.classLink RX6 25 RX1, Cond.fieldLink RX6 27 "CommitCouncil" "leaders" "[LCommitCouncil$Leader;", Cond.instantiable RX1 10, Cond.initialized RX1, Cond.classLink RX6 34 RX3, Cond.instantiable RX3 4, Cond.initialized RX3, Cond.fieldLink RX6 37 "CommitCouncil" "mail" "LCommitCouncil$Mail;", Cond.classLink RX6 41 RX2, Cond.instantiable RX2 4, Cond.initialized RX2, Cond.fieldLink RX6 44 "CommitCouncil" "ledger" "LCommitCouncil$Ledger;", Cond.instanceMethod yX4_init]
def wsX6_init_r2 : List Cond := [Cond.code yX4_init cX4_init 1 none, Cond.fieldLink RX4 9 "CommitCouncil$Manager" "state" "I", Cond.instanceMethod yX5_init, Cond.initialized RX5, Cond.code yX5_init cX5_init 1 none, Cond.methodLink RX5 1 objectInit, Cond.fieldLink RX5 7 "CommitCouncil$Member" "up" "Z", Cond.methodLink RX6 22 yX0_init, Cond.instanceMethod yX0_init, Cond.code yX0_init cX0_init 2 none, Cond.arrayClass .int, Cond.fieldLink RX0 7 "CommitCouncil$Acceptor" "accepted" "[I", Cond.methodLink RX6 31 yX1_init, Cond.instanceMethod yX1_init, Cond.code yX1_init cX1_init 3 none, Cond.fieldLink RX1 9 "CommitCouncil$Leader" "acceptorCount" "I", Cond.fieldLink RX1 15 "CommitCouncil$Leader" "latest" "[I", Cond.fieldLink RX1 19 "CommitCouncil$Leader" "outcomes" "[I", Cond.fieldLink RX1 22 "CommitCouncil$Leader" "sights" "[I", Cond.methodLink RX6 36 yX3_init, Cond.instanceMethod yX3_init, Cond.code yX3_init cX3_init 2 none, Cond.methodLink RX3 5 objectInit, Cond.fieldLink RX3 11 "CommitCouncil$Mail" "width" "I"]
def wsX6_init_r3 : List Cond := [Cond.fieldLink RX3 15 "CommitCouncil$Mail" "cells" "[I", Cond.methodLink RX6 43 yX2_init, Cond.instanceMethod yX2_init, Cond.code yX2_init cX2_init 3 none, Cond.methodLink RX2 3 objectInit, Cond.fieldLink RX2 9 "CommitCouncil$Ledger" "acceptorCount" "I", Cond.fieldLink RX2 15 "CommitCouncil$Ledger" "words" "[I", Cond.arrayClass .boolean, Cond.fieldLink RX2 19 "CommitCouncil$Ledger" "unlike" "[Z", Cond.fieldLink RX2 23 "CommitCouncil$Ledger" "takers" "[I"]
def wsX6_init : List Cond := .code yX6_init cX6_init 6 none :: ((wsX6_init_r1 ++ (wsX6_init_r2 ++ wsX6_init_r3)) ++ wsX60 ++ wsX40 ++ wsX00 ++ wsX10 ++ wsX30 ++ wsX20)
def wsX6_checkOne : List Cond := .code yX6_checkOne cX6_checkOne 2 none :: ([.classLink RX6 190 "java/lang/IndexOutOfBoundsException", .initialized "java/lang/IndexOutOfBoundsException"] ++ (vx_atS RX6 194 "java/lang/IndexOutOfBoundsException" ["java/lang/RuntimeException", "java/lang/Exception"]).filter goodWord)
def wsX6_sendVotes : List Cond := .code yX6_sendVotes cX6_sendVotes 5 none :: ([.fieldLink RX6 18 "CommitCouncil" "acceptors" "[LCommitCouncil$Acceptor;", .fieldLink RX6 37 "CommitCouncil" "mail" "LCommitCouncil$Mail;", .methodLink RX6 74 yX3_send, .instanceMethod yX3_send, .selects RX3 yX3_send yX3_send, .initialized RX3, .code yX3_send cX3_send 8 none, .fieldLink RX3 19 "CommitCouncil$Mail" "size" "I", .fieldLink RX3 11 "CommitCouncil$Mail" "width" "I", .fieldLink RX3 15 "CommitCouncil$Mail" "cells" "[I", .fieldLink RX3 22 "CommitCouncil$Mail" "sent" "I"] ++ wsX60 ++ wsX30)
def wsX6_propose_r1 : List Cond := [Cond.fieldLink RX6 11 "CommitCouncil" "managers" "[LCommitCouncil$Manager;", Cond.fieldLink RX6 59 "CommitCouncil$Manager" "up" "Z", Cond.sameField "CommitCouncil$Manager" "CommitCouncil$Member" "up" "Z", Cond.fieldLink RX6 55 "CommitCouncil$Manager" "state" "I", Cond.fieldLink RX6 37 "CommitCouncil" "mail" "LCommitCouncil$Mail;", Cond.fieldLink RX6 18 "CommitCouncil" "acceptors" "[LCommitCouncil$Acceptor;", Cond.fieldLink RX6 67 "CommitCouncil$Manager" "proposed" "I", Cond.methodLink RX6 63 yX3_hasRoomFor, Cond.instanceMethod yX3_hasRoomFor, Cond.selects RX3 yX3_hasRoomFor yX3_hasRoomFor, Cond.initialized RX3, Cond.code yX3_hasRoomFor cX3_hasRoomFor 2 (some .boolean), Cond.fieldLink RX3 19 "CommitCouncil$Mail" "size" "I", Cond.methodLink RX6 70 yX6_sendVotes, Cond.instanceMethod yX6_sendVotes, Cond.selects RX6 yX6_sendVotes yX6_sendVotes, Cond.initialized RX6, Cond.code yX6_sendVotes cX6_sendVotes 5 none, Cond.methodLink RX6 74 yX3_send, Cond.instanceMethod yX3_send, Cond.selects RX3 yX3_send yX3_send, Cond.code yX3_send cX3_send 8 none, Cond.fieldLink RX3 11 "CommitCouncil$Mail" "width" "I", Cond.fieldLink RX3 15 "CommitCouncil$Mail" "cells" "[I"]
def wsX6_propose_r2 : List Cond := [Cond.fieldLink RX3 22 "CommitCouncil$Mail" "sent" "I"]
def wsX6_propose : List Cond := .code yX6_propose cX6_propose 5 (some .boolean) :: ((wsX6_propose_r1 ++ wsX6_propose_r2) ++ wsX60 ++ wsX00 ++ wsX10 ++ wsX40 ++ wsX30)
def wsX6_prepare_r1 : List Cond := [Cond.fieldLink RX6 11 "CommitCouncil" "managers" "[LCommitCouncil$Manager;", Cond.methodLink RX6 48 yX6_checkOne, Cond.static yX6_checkOne, Cond.initialized RX6, Cond.code yX6_checkOne cX6_checkOne 2 none, Cond.classLink RX6 190 "java/lang/IndexOutOfBoundsException", Cond.initialized "java/lang/IndexOutOfBoundsException", Cond.methodLink RX6 51 yX6_propose, Cond.instanceMethod yX6_propose, Cond.selects RX6 yX6_propose yX6_propose, Cond.code yX6_propose cX6_propose 5 (some .boolean), Cond.fieldLink RX6 59 "CommitCouncil$Manager" "up" "Z", Cond.sameField "CommitCouncil$Manager" "CommitCouncil$Member" "up" "Z", Cond.fieldLink RX6 55 "CommitCouncil$Manager" "state" "I", Cond.fieldLink RX6 37 "CommitCouncil" "mail" "LCommitCouncil$Mail;", Cond.fieldLink RX6 18 "CommitCouncil" "acceptors" "[LCommitCouncil$Acceptor;", Cond.fieldLink RX6 67 "CommitCouncil$Manager" "proposed" "I", Cond.methodLink RX6 63 yX3_hasRoomFor, Cond.instanceMethod yX3_hasRoomFor, Cond.selects RX3 yX3_hasRoomFor yX3_hasRoomFor, Cond.initialized RX3, Cond.code yX3_hasRoomFor cX3_hasRoomFor 2 (some .boolean), Cond.fieldLink RX3 19 "CommitCouncil$Mail" "size" "I", Cond.methodLink RX6 70 yX6_sendVotes]
def wsX6_prepare_r2 : List Cond := [Cond.instanceMethod yX6_sendVotes, Cond.selects RX6 yX6_sendVotes yX6_sendVotes, Cond.code yX6_sendVotes cX6_sendVotes 5 none, Cond.methodLink RX6 74 yX3_send, Cond.instanceMethod yX3_send, Cond.selects RX3 yX3_send yX3_send, Cond.code yX3_send cX3_send 8 none, Cond.fieldLink RX3 11 "CommitCouncil$Mail" "width" "I", Cond.fieldLink RX3 15 "CommitCouncil$Mail" "cells" "[I", Cond.fieldLink RX3 22 "CommitCouncil$Mail" "sent" "I"]
def wsX6_prepare : List Cond := .code yX6_prepare cX6_prepare 2 (some .boolean) :: ((wsX6_prepare_r1 ++ wsX6_prepare_r2) ++ wsX60 ++ wsX00 ++ wsX10 ++ wsX40 ++ wsX30 ++ (vx_atS RX6 194 "java/lang/IndexOutOfBoundsException" ["java/lang/RuntimeException", "java/lang/Exception"]).filter goodWord)
def wsX6_refuse_r1 : List Cond := [Cond.fieldLink RX6 11 "CommitCouncil" "managers" "[LCommitCouncil$Manager;", Cond.methodLink RX6 48 yX6_checkOne, Cond.static yX6_checkOne, Cond.initialized RX6, Cond.code yX6_checkOne cX6_checkOne 2 none, Cond.classLink RX6 190 "java/lang/IndexOutOfBoundsException", Cond.initialized "java/lang/IndexOutOfBoundsException", Cond.methodLink RX6 51 yX6_propose, Cond.instanceMethod yX6_propose, Cond.selects RX6 yX6_propose yX6_propose, Cond.code yX6_propose cX6_propose 5 (some .boolean), Cond.fieldLink RX6 59 "CommitCouncil$Manager" "up" "Z", Cond.sameField "CommitCouncil$Manager" "CommitCouncil$Member" "up" "Z", Cond.fieldLink RX6 55 "CommitCouncil$Manager" "state" "I", Cond.fieldLink RX6 37 "CommitCouncil" "mail" "LCommitCouncil$Mail;", Cond.fieldLink RX6 18 "CommitCouncil" "acceptors" "[LCommitCouncil$Acceptor;", Cond.fieldLink RX6 67 "CommitCouncil$Manager" "proposed" "I", Cond.methodLink RX6 63 yX3_hasRoomFor, Cond.instanceMethod yX3_hasRoomFor, Cond.selects RX3 yX3_hasRoomFor yX3_hasRoomFor, Cond.initialized RX3, Cond.code yX3_hasRoomFor cX3_hasRoomFor 2 (some .boolean), Cond.fieldLink RX3 19 "CommitCouncil$Mail" "size" "I", Cond.methodLink RX6 70 yX6_sendVotes]
def wsX6_refuse_r2 : List Cond := [Cond.instanceMethod yX6_sendVotes, Cond.selects RX6 yX6_sendVotes yX6_sendVotes, Cond.code yX6_sendVotes cX6_sendVotes 5 none, Cond.methodLink RX6 74 yX3_send, Cond.instanceMethod yX3_send, Cond.selects RX3 yX3_send yX3_send, Cond.code yX3_send cX3_send 8 none, Cond.fieldLink RX3 11 "CommitCouncil$Mail" "width" "I", Cond.fieldLink RX3 15 "CommitCouncil$Mail" "cells" "[I", Cond.fieldLink RX3 22 "CommitCouncil$Mail" "sent" "I"]
def wsX6_refuse : List Cond := .code yX6_refuse cX6_refuse 2 (some .boolean) :: ((wsX6_refuse_r1 ++ wsX6_refuse_r2) ++ wsX60 ++ wsX00 ++ wsX10 ++ wsX40 ++ wsX30 ++ (vx_atS RX6 194 "java/lang/IndexOutOfBoundsException" ["java/lang/RuntimeException", "java/lang/Exception"]).filter goodWord)
def wsX6_resend_r1 : List Cond := [Cond.fieldLink RX6 11 "CommitCouncil" "managers" "[LCommitCouncil$Manager;", Cond.fieldLink RX6 55 "CommitCouncil$Manager" "state" "I", Cond.fieldLink RX6 59 "CommitCouncil$Manager" "up" "Z", Cond.sameField "CommitCouncil$Manager" "CommitCouncil$Member" "up" "Z", Cond.fieldLink RX6 37 "CommitCouncil" "mail" "LCommitCouncil$Mail;", Cond.fieldLink RX6 18 "CommitCouncil" "acceptors" "[LCommitCouncil$Acceptor;", Cond.fieldLink RX6 67 "CommitCouncil$Manager" "proposed" "I", Cond.methodLink RX6 48 yX6_checkOne, Cond.static yX6_checkOne, Cond.initialized RX6, Cond.code yX6_checkOne cX6_checkOne 2 none, Cond.classLink RX6 190 "java/lang/IndexOutOfBoundsException", Cond.initialized "java/lang/IndexOutOfBoundsException", Cond.methodLink RX6 63 yX3_hasRoomFor, Cond.instanceMethod yX3_hasRoomFor, Cond.selects RX3 yX3_hasRoomFor yX3_hasRoomFor, Cond.initialized RX3, Cond.code yX3_hasRoomFor cX3_hasRoomFor 2 (some .boolean), Cond.fieldLink RX3 19 "CommitCouncil$Mail" "size" "I", Cond.methodLink RX6 70 yX6_sendVotes, Cond.instanceMethod yX6_sendVotes, Cond.selects RX6 yX6_sendVotes yX6_sendVotes, Cond.code yX6_sendVotes cX6_sendVotes 5 none, Cond.methodLink RX6 74 yX3_send]
def wsX6_resend_r2 : List Cond := [Cond.instanceMethod yX3_send, Cond.selects RX3 yX3_send yX3_send, Cond.code yX3_send cX3_send 8 none, Cond.fieldLink RX3 11 "CommitCouncil$Mail" "width" "I", Cond.fieldLink RX3 15 "CommitCouncil$Mail" "cells" "[I", Cond.fieldLink RX3 22 "CommitCouncil$Mail" "sent" "I"]
def wsX6_resend : List Cond := .code yX6_resend cX6_resend 4 (some .boolean) :: ((wsX6_resend_r1 ++ wsX6_resend_r2) ++ wsX60 ++ wsX40 ++ wsX00 ++ wsX10 ++ wsX30 ++ (vx_atS RX6 194 "java/lang/IndexOutOfBoundsException" ["java/lang/RuntimeException", "java/lang/Exception"]).filter goodWord)
def wsX6_question : List Cond := .code yX6_question cX6_question 3 (some .boolean) :: ([.fieldLink RX6 11 "CommitCouncil" "managers" "[LCommitCouncil$Manager;", .fieldLink RX6 59 "CommitCouncil$Manager" "up" "Z", .sameField "CommitCouncil$Manager" "CommitCouncil$Member" "up" "Z", .fieldLink RX6 37 "CommitCouncil" "mail" "LCommitCouncil$Mail;", .methodLink RX6 48 yX6_checkOne, .static yX6_checkOne, .initialized RX6, .code yX6_checkOne cX6_checkOne 2 none, .classLink RX6 190 "java/lang/IndexOutOfBoundsException", .initialized "java/lang/IndexOutOfBoundsException", .methodLink RX6 63 yX3_hasRoomFor, .instanceMethod yX3_hasRoomFor, .selects RX3 yX3_hasRoomFor yX3_hasRoomFor, .initialized RX3, .code yX3_hasRoomFor cX3_hasRoomFor 2 (some .boolean), .fieldLink RX3 19 "CommitCouncil$Mail" "size" "I", .methodLink RX6 74 yX3_send, .instanceMethod yX3_send, .selects RX3 yX3_send yX3_send, .code yX3_send cX3_send 8 none, .fieldLink RX3 11 "CommitCouncil$Mail" "width" "I", .fieldLink RX3 15 "CommitCouncil$Mail" "cells" "[I", .fieldLink RX3 22 "CommitCouncil$Mail" "sent" "I"] ++ wsX60 ++ wsX00 ++ wsX10 ++ wsX40 ++ wsX30 ++ (vx_atS RX6 194 "java/lang/IndexOutOfBoundsException" ["java/lang/RuntimeException", "java/lang/Exception"]).filter goodWord)
def wsX6_leastOwnAbove : List Cond := .code yX6_leastOwnAbove cX6_leastOwnAbove 3 (some .int) :: ([])
def wsX6_sendDecisions : List Cond := .code yX6_sendDecisions cX6_sendDecisions 3 none :: ([.fieldLink RX6 11 "CommitCouncil" "managers" "[LCommitCouncil$Manager;", .fieldLink RX6 37 "CommitCouncil" "mail" "LCommitCouncil$Mail;", .methodLink RX6 74 yX3_send, .instanceMethod yX3_send, .selects RX3 yX3_send yX3_send, .initialized RX3, .code yX3_send cX3_send 8 none, .fieldLink RX3 19 "CommitCouncil$Mail" "size" "I", .fieldLink RX3 11 "CommitCouncil$Mail" "width" "I", .fieldLink RX3 15 "CommitCouncil$Mail" "cells" "[I", .fieldLink RX3 22 "CommitCouncil$Mail" "sent" "I"] ++ wsX60 ++ wsX30)
def wsX6_begin_r1 : List Cond := [Cond.fieldLink RX6 27 "CommitCouncil" "leaders" "[LCommitCouncil$Leader;", Cond.fieldLink RX6 78 "CommitCouncil$Leader" "highest" "I", Cond.fieldLink RX6 18 "CommitCouncil" "acceptors" "[LCommitCouncil$Acceptor;", Cond.fieldLink RX6 85 "CommitCouncil$Leader" "decision" "I", Cond.fieldLink RX6 11 "CommitCouncil" "managers" "[LCommitCouncil$Manager;", Cond.fieldLink RX6 88 "CommitCouncil$Leader" "up" "Z", Cond.sameField "CommitCouncil$Leader" "CommitCouncil$Member" "up" "Z", Cond.fieldLink RX6 37 "CommitCouncil" "mail" "LCommitCouncil$Mail;", Cond.fieldLink RX6 92 "CommitCouncil" "begun" "I", Cond.methodLink RX6 48 yX6_checkOne, Cond.static yX6_checkOne, Cond.initialized RX6, Cond.code yX6_checkOne cX6_checkOne 2 none, Cond.classLink RX6 190 "java/lang/IndexOutOfBoundsException", Cond.initialized "java/lang/IndexOutOfBoundsException", Cond.methodLink RX6 81 yX6_leastOwnAbove, Cond.static yX6_leastOwnAbove, Cond.code yX6_leastOwnAbove cX6_leastOwnAbove 3 (some .int), Cond.methodLink RX6 63 yX3_hasRoomFor, Cond.instanceMethod yX3_hasRoomFor, Cond.selects RX3 yX3_hasRoomFor yX3_hasRoomFor, Cond.initialized RX3, Cond.code yX3_hasRoomFor cX3_hasRoomFor 2 (some .boolean), Cond.fieldLink RX3 19 "CommitCouncil$Mail" "size" "I"]
def wsX6_begin_r2 : List Cond := [Cond.methodLink RX6 89 yX1_startAsking, Cond.instanceMethod yX1_startAsking, Cond.selects RX1 yX1_startAsking yX1_startAsking, Cond.initialized RX1, Cond.code yX1_startAsking cX1_startAsking 2 none, Cond.fieldLink RX1 25 "CommitCouncil$Leader" "ballot" "I", Cond.fieldLink RX1 28 "CommitCouncil$Leader" "highest" "I", Cond.fieldLink RX1 31 "CommitCouncil$Leader" "phase" "I", Cond.fieldLink RX1 34 "CommitCouncil$Leader" "toldBy" "I", Cond.fieldLink RX1 15 "CommitCouncil$Leader" "latest" "[I", Cond.methodLink RX1 37 yJ7_fill_53178, Cond.static yJ7_fill_53178, Cond.initialized RJ7, Cond.code yJ7_fill_53178 cJ7_fill_53178 4 none, Cond.methodLink RX6 74 yX3_send, Cond.instanceMethod yX3_send, Cond.selects RX3 yX3_send yX3_send, Cond.code yX3_send cX3_send 8 none, Cond.fieldLink RX3 11 "CommitCouncil$Mail" "width" "I", Cond.fieldLink RX3 15 "CommitCouncil$Mail" "cells" "[I", Cond.fieldLink RX3 22 "CommitCouncil$Mail" "sent" "I", Cond.methodLink RX6 95 yX6_sendDecisions, Cond.instanceMethod yX6_sendDecisions, Cond.selects RX6 yX6_sendDecisions yX6_sendDecisions]
def wsX6_begin_r3 : List Cond := [Cond.code yX6_sendDecisions cX6_sendDecisions 3 none]
def wsX6_begin : List Cond := .code yX6_begin cX6_begin 6 (some .int) :: ((wsX6_begin_r1 ++ (wsX6_begin_r2 ++ wsX6_begin_r3)) ++ wsX60 ++ wsX10 ++ wsX00 ++ wsX40 ++ wsX30 ++ (vx_atS RX6 194 "java/lang/IndexOutOfBoundsException" ["java/lang/RuntimeException", "java/lang/Exception"]).filter goodWord)
def wsX6_isUp : List Cond := .code yX6_isUp cX6_isUp 3 (some .boolean) :: ([.fieldLink RX6 18 "CommitCouncil" "acceptors" "[LCommitCouncil$Acceptor;", .fieldLink RX6 143 "CommitCouncil$Acceptor" "up" "Z", .sameField "CommitCouncil$Acceptor" "CommitCouncil$Member" "up" "Z", .fieldLink RX6 27 "CommitCouncil" "leaders" "[LCommitCouncil$Leader;", .fieldLink RX6 88 "CommitCouncil$Leader" "up" "Z", .sameField "CommitCouncil$Leader" "CommitCouncil$Member" "up" "Z", .fieldLink RX6 11 "CommitCouncil" "managers" "[LCommitCouncil$Manager;", .fieldLink RX6 59 "CommitCouncil$Manager" "up" "Z", .sameField "CommitCouncil$Manager" "CommitCouncil$Member" "up" "Z"] ++ wsX60 ++ wsX00 ++ wsX10 ++ wsX40)
def wsX6_answersTo_r1 : List Cond := [Cond.fieldLink RX6 37 "CommitCouncil" "mail" "LCommitCouncil$Mail;", Cond.fieldLink RX6 18 "CommitCouncil" "acceptors" "[LCommitCouncil$Acceptor;", Cond.fieldLink RX6 140 "CommitCouncil$Acceptor" "promised" "I", Cond.fieldLink RX6 27 "CommitCouncil" "leaders" "[LCommitCouncil$Leader;", Cond.fieldLink RX6 85 "CommitCouncil$Leader" "decision" "I", Cond.fieldLink RX6 11 "CommitCouncil" "managers" "[LCommitCouncil$Manager;", Cond.methodLink RX6 128 yX3_part, Cond.instanceMethod yX3_part, Cond.selects RX3 yX3_part yX3_part, Cond.initialized RX3, Cond.code yX3_part cX3_part 3 (some .int), Cond.fieldLink RX3 19 "CommitCouncil$Mail" "size" "I", Cond.fieldLink RX3 15 "CommitCouncil$Mail" "cells" "[I", Cond.fieldLink RX3 11 "CommitCouncil$Mail" "width" "I", Cond.methodLink RX6 213 yX6_voteOf, Cond.static yX6_voteOf, Cond.initialized RX6, Cond.code yX6_voteOf cX6_voteOf 2 (some .int), Cond.methodLink RX6 216 yX1_decisionAfter, Cond.instanceMethod yX1_decisionAfter, Cond.selects RX1 yX1_decisionAfter yX1_decisionAfter, Cond.initialized RX1, Cond.code yX1_decisionAfter cX1_decisionAfter 6 (some .int), Cond.fieldLink RX1 49 "CommitCouncil$Leader" "decision" "I"]
def wsX6_answersTo_r2 : List Cond := [Cond.fieldLink RX1 19 "CommitCouncil$Leader" "outcomes" "[I", Cond.methodLink RX1 52 yX1_outcomeAfter, Cond.instanceMethod yX1_outcomeAfter, Cond.selects RX1 yX1_outcomeAfter yX1_outcomeAfter, Cond.code yX1_outcomeAfter cX1_outcomeAfter 6 (some .int), Cond.fieldLink RX1 9 "CommitCouncil$Leader" "acceptorCount" "I", Cond.static yX6_ballotOf, Cond.code yX6_ballotOf cX6_ballotOf 1 (some .int), Cond.methodLink RX1 62 yX1_sightOf, Cond.instanceMethod yX1_sightOf, Cond.selects RX1 yX1_sightOf yX1_sightOf, Cond.code yX1_sightOf cX1_sightOf 4 (some .int), Cond.fieldLink RX1 22 "CommitCouncil$Leader" "sights" "[I", Cond.static yX6_wordOf, Cond.code yX6_wordOf cX6_wordOf 1 (some .int), Cond.methodLink RX6 219 yX1_keeps, Cond.instanceMethod yX1_keeps, Cond.selects RX1 yX1_keeps yX1_keeps, Cond.code yX1_keeps cX1_keeps 3 (some .boolean), Cond.fieldLink RX1 31 "CommitCouncil$Leader" "phase" "I", Cond.fieldLink RX1 25 "CommitCouncil$Leader" "ballot" "I", Cond.fieldLink RX1 34 "CommitCouncil$Leader" "toldBy" "I", Cond.methodLink RX6 222 yX1_oneMoreIsEnough, Cond.instanceMethod yX1_oneMoreIsEnough]
def wsX6_answersTo_r3 : List Cond := [Cond.selects RX1 yX1_oneMoreIsEnough yX1_oneMoreIsEnough, Cond.code yX1_oneMoreIsEnough cX1_oneMoreIsEnough 1 (some .boolean), Cond.methodLink RX1 43 yJ6_bitCount_0f7a4, Cond.static yJ6_bitCount_0f7a4, Cond.initialized RJ6, Cond.code yJ6_bitCount_0f7a4 cJ6_bitCount_0f7a4 1 (some .int), Cond.constant RJ6 265 (1431655765), Cond.constant RJ6 266 (858993459), Cond.constant RJ6 267 (252645135)]
def wsX6_answersTo : List Cond := .code yX6_answersTo cX6_answersTo 9 (some .int) :: ((wsX6_answersTo_r1 ++ (wsX6_answersTo_r2 ++ wsX6_answersTo_r3)) ++ wsX60 ++ wsX00 ++ wsX10 ++ wsX30)
def wsX6_takeVote_r1 : List Cond := [Cond.fieldLink RX6 37 "CommitCouncil" "mail" "LCommitCouncil$Mail;", Cond.fieldLink RX6 18 "CommitCouncil" "acceptors" "[LCommitCouncil$Acceptor;", Cond.fieldLink RX6 140 "CommitCouncil$Acceptor" "promised" "I", Cond.fieldLink RX6 44 "CommitCouncil" "ledger" "LCommitCouncil$Ledger;", Cond.methodLink RX6 128 yX3_part, Cond.instanceMethod yX3_part, Cond.selects RX3 yX3_part yX3_part, Cond.initialized RX3, Cond.code yX3_part cX3_part 3 (some .int), Cond.fieldLink RX3 19 "CommitCouncil$Mail" "size" "I", Cond.fieldLink RX3 15 "CommitCouncil$Mail" "cells" "[I", Cond.fieldLink RX3 11 "CommitCouncil$Mail" "width" "I", Cond.methodLink RX6 242 yX0_accept, Cond.instanceMethod yX0_accept, Cond.selects RX0 yX0_accept yX0_accept, Cond.initialized RX0, Cond.code yX0_accept cX0_accept 4 none, Cond.fieldLink RX0 13 "CommitCouncil$Acceptor" "promised" "I", Cond.fieldLink RX0 7 "CommitCouncil$Acceptor" "accepted" "[I", Cond.static yX6_voteOf, Cond.initialized RX6, Cond.code yX6_voteOf cX6_voteOf 2 (some .int), Cond.methodLink RX6 245 yX2_enter, Cond.instanceMethod yX2_enter]
def wsX6_takeVote_r2 : List Cond := [Cond.selects RX2 yX2_enter yX2_enter, Cond.initialized RX2, Cond.code yX2_enter cX2_enter 7 none, Cond.fieldLink RX2 15 "CommitCouncil$Ledger" "words" "[I", Cond.fieldLink RX2 23 "CommitCouncil$Ledger" "takers" "[I", Cond.fieldLink RX2 9 "CommitCouncil$Ledger" "acceptorCount" "I", Cond.fieldLink RX2 19 "CommitCouncil$Ledger" "unlike" "[Z", Cond.methodLink RX2 26 yJ6_bitCount_0f7a4, Cond.static yJ6_bitCount_0f7a4, Cond.initialized RJ6, Cond.code yJ6_bitCount_0f7a4 cJ6_bitCount_0f7a4 1 (some .int), Cond.constant RJ6 265 (1431655765), Cond.constant RJ6 266 (858993459), Cond.constant RJ6 267 (252645135), Cond.methodLink RX6 74 yX3_send, Cond.instanceMethod yX3_send, Cond.selects RX3 yX3_send yX3_send, Cond.code yX3_send cX3_send 8 none, Cond.fieldLink RX3 22 "CommitCouncil$Mail" "sent" "I"]
def wsX6_takeVote : List Cond := .code yX6_takeVote cX6_takeVote 7 none :: ((wsX6_takeVote_r1 ++ wsX6_takeVote_r2) ++ wsX60 ++ wsX00 ++ wsX30 ++ wsX20)
def wsX6_takeVoted_r1 : List Cond := [Cond.fieldLink RX6 37 "CommitCouncil" "mail" "LCommitCouncil$Mail;", Cond.fieldLink RX6 78 "CommitCouncil$Leader" "highest" "I", Cond.methodLink RX6 256 Lib.Math.max.name, Cond.static Lib.Math.max.name, Cond.initialized "java/lang/Math", Cond.code Lib.Math.max.name Lib.Math.max.code 2 (some .int), Cond.fieldLink RX6 85 "CommitCouncil$Leader" "decision" "I", Cond.methodLink RX6 128 yX3_part, Cond.instanceMethod yX3_part, Cond.selects RX3 yX3_part yX3_part, Cond.initialized RX3, Cond.code yX3_part cX3_part 3 (some .int), Cond.fieldLink RX3 19 "CommitCouncil$Mail" "size" "I", Cond.fieldLink RX3 15 "CommitCouncil$Mail" "cells" "[I", Cond.fieldLink RX3 11 "CommitCouncil$Mail" "width" "I", Cond.methodLink RX6 213 yX6_voteOf, Cond.static yX6_voteOf, Cond.initialized RX6, Cond.code yX6_voteOf cX6_voteOf 2 (some .int), Cond.methodLink RX6 259 yX1_see, Cond.instanceMethod yX1_see, Cond.selects RX1 yX1_see yX1_see, Cond.initialized RX1, Cond.code yX1_see cX1_see 7 none]
def wsX6_takeVoted_r2 : List Cond := [Cond.fieldLink RX1 9 "CommitCouncil$Leader" "acceptorCount" "I", Cond.fieldLink RX1 19 "CommitCouncil$Leader" "outcomes" "[I", Cond.fieldLink RX1 22 "CommitCouncil$Leader" "sights" "[I", Cond.fieldLink RX1 49 "CommitCouncil$Leader" "decision" "I", Cond.methodLink RX1 52 yX1_outcomeAfter, Cond.instanceMethod yX1_outcomeAfter, Cond.selects RX1 yX1_outcomeAfter yX1_outcomeAfter, Cond.code yX1_outcomeAfter cX1_outcomeAfter 6 (some .int), Cond.static yX6_ballotOf, Cond.code yX6_ballotOf cX6_ballotOf 1 (some .int), Cond.methodLink RX1 62 yX1_sightOf, Cond.instanceMethod yX1_sightOf, Cond.selects RX1 yX1_sightOf yX1_sightOf, Cond.code yX1_sightOf cX1_sightOf 4 (some .int), Cond.static yX6_wordOf, Cond.code yX6_wordOf cX6_wordOf 1 (some .int), Cond.methodLink RX1 56 yX1_decisionAfter, Cond.instanceMethod yX1_decisionAfter, Cond.selects RX1 yX1_decisionAfter yX1_decisionAfter, Cond.code yX1_decisionAfter cX1_decisionAfter 6 (some .int), Cond.methodLink RX6 95 yX6_sendDecisions, Cond.instanceMethod yX6_sendDecisions, Cond.selects RX6 yX6_sendDecisions yX6_sendDecisions, Cond.code yX6_sendDecisions cX6_sendDecisions 3 none]
def wsX6_takeVoted_r3 : List Cond := [Cond.fieldLink RX6 11 "CommitCouncil" "managers" "[LCommitCouncil$Manager;", Cond.methodLink RX6 74 yX3_send, Cond.instanceMethod yX3_send, Cond.selects RX3 yX3_send yX3_send, Cond.code yX3_send cX3_send 8 none, Cond.fieldLink RX3 22 "CommitCouncil$Mail" "sent" "I"]
def wsX6_takeVoted : List Cond := .code yX6_takeVoted cX6_takeVoted 6 none :: ((wsX6_takeVoted_r1 ++ (wsX6_takeVoted_r2 ++ wsX6_takeVoted_r3)) ++ wsX60 ++ wsX10 ++ wsX30)
def wsJ9_floorMod_7cf53 : List Cond := .code yJ9_floorMod_7cf53 cJ9_floorMod_7cf53 3 (some .int) :: ([])
def wsX6_leaderOf : List Cond := .code yX6_leaderOf cX6_leaderOf 1 (some .int) :: ([.methodLink RX6 195 yJ9_floorMod_7cf53, .static yJ9_floorMod_7cf53, .initialized RJ9, .code yJ9_floorMod_7cf53 cJ9_floorMod_7cf53 3 (some .int)])
def wsX6_takeAsk_r1 : List Cond := [Cond.fieldLink RX6 18 "CommitCouncil" "acceptors" "[LCommitCouncil$Acceptor;", Cond.fieldLink RX6 140 "CommitCouncil$Acceptor" "promised" "I", Cond.fieldLink RX6 37 "CommitCouncil" "mail" "LCommitCouncil$Mail;", Cond.fieldLink RX6 144 "CommitCouncil$Acceptor" "accepted" "[I", Cond.methodLink RX6 249 yX6_leaderOf, Cond.static yX6_leaderOf, Cond.initialized RX6, Cond.code yX6_leaderOf cX6_leaderOf 1 (some .int), Cond.methodLink RX6 195 yJ9_floorMod_7cf53, Cond.static yJ9_floorMod_7cf53, Cond.initialized RJ9, Cond.code yJ9_floorMod_7cf53 cJ9_floorMod_7cf53 3 (some .int), Cond.methodLink RX6 74 yX3_send, Cond.instanceMethod yX3_send, Cond.selects RX3 yX3_send yX3_send, Cond.initialized RX3, Cond.code yX3_send cX3_send 8 none, Cond.fieldLink RX3 19 "CommitCouncil$Mail" "size" "I", Cond.fieldLink RX3 11 "CommitCouncil$Mail" "width" "I", Cond.fieldLink RX3 15 "CommitCouncil$Mail" "cells" "[I", Cond.fieldLink RX3 22 "CommitCouncil$Mail" "sent" "I", Cond.methodLink RX6 252 yX3_attach, Cond.instanceMethod yX3_attach, Cond.selects RX3 yX3_attach yX3_attach]
def wsX6_takeAsk_r2 : List Cond := [Cond.code yX3_attach cX3_attach 2 none, Cond.methodLink RX3 25 arraycopyName, Cond.native arraycopyName, Cond.static arraycopyName, Cond.initialized "java/lang/System"]
def wsX6_takeAsk : List Cond := .code yX6_takeAsk cX6_takeAsk 4 none :: ((wsX6_takeAsk_r1 ++ wsX6_takeAsk_r2) ++ wsX60 ++ wsX00 ++ wsX30)
def wsX6_startVoting : List Cond := .code yX6_startVoting cX6_startVoting 4 none :: ([.fieldLink RX6 151 "CommitCouncil$Leader" "phase" "I", .fieldLink RX6 11 "CommitCouncil" "managers" "[LCommitCouncil$Manager;", .fieldLink RX6 262 "CommitCouncil$Leader" "latest" "[I", .fieldLink RX6 148 "CommitCouncil$Leader" "ballot" "I", .methodLink RX6 137 yX6_wordOf, .static yX6_wordOf, .initialized RX6, .code yX6_wordOf cX6_wordOf 1 (some .int), .methodLink RX6 70 yX6_sendVotes, .instanceMethod yX6_sendVotes, .selects RX6 yX6_sendVotes yX6_sendVotes, .code yX6_sendVotes cX6_sendVotes 5 none, .fieldLink RX6 18 "CommitCouncil" "acceptors" "[LCommitCouncil$Acceptor;", .fieldLink RX6 37 "CommitCouncil" "mail" "LCommitCouncil$Mail;", .methodLink RX6 74 yX3_send, .instanceMethod yX3_send, .selects RX3 yX3_send yX3_send, .initialized RX3, .code yX3_send cX3_send 8 none, .fieldLink RX3 19 "CommitCouncil$Mail" "size" "I", .fieldLink RX3 11 "CommitCouncil$Mail" "width" "I", .fieldLink RX3 15 "CommitCouncil$Mail" "cells" "[I", .fieldLink RX3 22 "CommitCouncil$Mail" "sent" "I"] ++ wsX10 ++ wsX60 ++ wsX30)
def wsX6_takeTold_r1 : List Cond := [Cond.fieldLink RX6 37 "CommitCouncil" "mail" "LCommitCouncil$Mail;", Cond.fieldLink RX6 78 "CommitCouncil$Leader" "highest" "I", Cond.methodLink RX6 256 Lib.Math.max.name, Cond.static Lib.Math.max.name, Cond.initialized "java/lang/Math", Cond.code Lib.Math.max.name Lib.Math.max.code 2 (some .int), Cond.fieldLink RX6 154 "CommitCouncil$Leader" "toldBy" "I", Cond.fieldLink RX6 11 "CommitCouncil" "managers" "[LCommitCouncil$Manager;", Cond.fieldLink RX6 262 "CommitCouncil$Leader" "latest" "[I", Cond.methodLink RX6 128 yX3_part, Cond.instanceMethod yX3_part, Cond.selects RX3 yX3_part yX3_part, Cond.initialized RX3, Cond.code yX3_part cX3_part 3 (some .int), Cond.fieldLink RX3 19 "CommitCouncil$Mail" "size" "I", Cond.fieldLink RX3 15 "CommitCouncil$Mail" "cells" "[I", Cond.fieldLink RX3 11 "CommitCouncil$Mail" "width" "I", Cond.methodLink RX6 219 yX1_keeps, Cond.instanceMethod yX1_keeps, Cond.selects RX1 yX1_keeps yX1_keeps, Cond.initialized RX1, Cond.code yX1_keeps cX1_keeps 3 (some .boolean), Cond.fieldLink RX1 31 "CommitCouncil$Leader" "phase" "I", Cond.fieldLink RX1 25 "CommitCouncil$Leader" "ballot" "I"]
def wsX6_takeTold_r2 : List Cond := [Cond.fieldLink RX1 34 "CommitCouncil$Leader" "toldBy" "I", Cond.methodLink RX6 222 yX1_oneMoreIsEnough, Cond.instanceMethod yX1_oneMoreIsEnough, Cond.selects RX1 yX1_oneMoreIsEnough yX1_oneMoreIsEnough, Cond.code yX1_oneMoreIsEnough cX1_oneMoreIsEnough 1 (some .boolean), Cond.fieldLink RX1 9 "CommitCouncil$Leader" "acceptorCount" "I", Cond.methodLink RX1 43 yJ6_bitCount_0f7a4, Cond.static yJ6_bitCount_0f7a4, Cond.initialized RJ6, Cond.code yJ6_bitCount_0f7a4 cJ6_bitCount_0f7a4 1 (some .int), Cond.constant RJ6 265 (1431655765), Cond.constant RJ6 266 (858993459), Cond.constant RJ6 267 (252645135), Cond.methodLink RX6 131 yX3_tidings, Cond.instanceMethod yX3_tidings, Cond.selects RX3 yX3_tidings yX3_tidings, Cond.code yX3_tidings cX3_tidings 3 (some .int), Cond.methodLink RX6 265 yX6_startVoting, Cond.instanceMethod yX6_startVoting, Cond.selects RX6 yX6_startVoting yX6_startVoting, Cond.initialized RX6, Cond.code yX6_startVoting cX6_startVoting 4 none, Cond.fieldLink RX6 151 "CommitCouncil$Leader" "phase" "I", Cond.fieldLink RX6 148 "CommitCouncil$Leader" "ballot" "I"]
def wsX6_takeTold_r3 : List Cond := [Cond.methodLink RX6 137 yX6_wordOf, Cond.static yX6_wordOf, Cond.code yX6_wordOf cX6_wordOf 1 (some .int), Cond.methodLink RX6 70 yX6_sendVotes, Cond.instanceMethod yX6_sendVotes, Cond.selects RX6 yX6_sendVotes yX6_sendVotes, Cond.code yX6_sendVotes cX6_sendVotes 5 none, Cond.fieldLink RX6 18 "CommitCouncil" "acceptors" "[LCommitCouncil$Acceptor;", Cond.methodLink RX6 74 yX3_send, Cond.instanceMethod yX3_send, Cond.selects RX3 yX3_send yX3_send, Cond.code yX3_send cX3_send 8 none, Cond.fieldLink RX3 22 "CommitCouncil$Mail" "sent" "I"]
def wsX6_takeTold : List Cond := .code yX6_takeTold cX6_takeTold 7 none :: ((wsX6_takeTold_r1 ++ (wsX6_takeTold_r2 ++ wsX6_takeTold_r3)) ++ wsX60 ++ wsX10 ++ wsX30)
def wsX6_takeQuestion : List Cond := .code yX6_takeQuestion cX6_takeQuestion 3 none :: ([.fieldLink RX6 37 "CommitCouncil" "mail" "LCommitCouncil$Mail;", .methodLink RX6 74 yX3_send, .instanceMethod yX3_send, .selects RX3 yX3_send yX3_send, .initialized RX3, .code yX3_send cX3_send 8 none, .fieldLink RX3 19 "CommitCouncil$Mail" "size" "I", .fieldLink RX3 11 "CommitCouncil$Mail" "width" "I", .fieldLink RX3 15 "CommitCouncil$Mail" "cells" "[I", .fieldLink RX3 22 "CommitCouncil$Mail" "sent" "I"] ++ wsX60 ++ wsX30)
def wsX6_take_r1 : List Cond := [Cond.fieldLink RX6 27 "CommitCouncil" "leaders" "[LCommitCouncil$Leader;", Cond.fieldLink RX6 37 "CommitCouncil" "mail" "LCommitCouncil$Mail;", Cond.fieldLink RX6 11 "CommitCouncil" "managers" "[LCommitCouncil$Manager;", Cond.fieldLink RX6 55 "CommitCouncil$Manager" "state" "I", Cond.fieldLink RX6 85 "CommitCouncil$Leader" "decision" "I", Cond.methodLink RX6 226 yX6_takeVote, Cond.instanceMethod yX6_takeVote, Cond.selects RX6 yX6_takeVote yX6_takeVote, Cond.initialized RX6, Cond.code yX6_takeVote cX6_takeVote 7 none, Cond.fieldLink RX6 18 "CommitCouncil" "acceptors" "[LCommitCouncil$Acceptor;", Cond.fieldLink RX6 140 "CommitCouncil$Acceptor" "promised" "I", Cond.fieldLink RX6 44 "CommitCouncil" "ledger" "LCommitCouncil$Ledger;", Cond.methodLink RX6 128 yX3_part, Cond.instanceMethod yX3_part, Cond.selects RX3 yX3_part yX3_part, Cond.initialized RX3, Cond.code yX3_part cX3_part 3 (some .int), Cond.fieldLink RX3 19 "CommitCouncil$Mail" "size" "I", Cond.fieldLink RX3 15 "CommitCouncil$Mail" "cells" "[I", Cond.fieldLink RX3 11 "CommitCouncil$Mail" "width" "I", Cond.methodLink RX6 242 yX0_accept, Cond.instanceMethod yX0_accept, Cond.selects RX0 yX0_accept yX0_accept]
def wsX6_take_r2 : List Cond := [Cond.initialized RX0, Cond.code yX0_accept cX0_accept 4 none, Cond.fieldLink RX0 13 "CommitCouncil$Acceptor" "promised" "I", Cond.fieldLink RX0 7 "CommitCouncil$Acceptor" "accepted" "[I", Cond.static yX6_voteOf, Cond.code yX6_voteOf cX6_voteOf 2 (some .int), Cond.methodLink RX6 245 yX2_enter, Cond.instanceMethod yX2_enter, Cond.selects RX2 yX2_enter yX2_enter, Cond.initialized RX2, Cond.code yX2_enter cX2_enter 7 none, Cond.fieldLink RX2 15 "CommitCouncil$Ledger" "words" "[I", Cond.fieldLink RX2 23 "CommitCouncil$Ledger" "takers" "[I", Cond.fieldLink RX2 9 "CommitCouncil$Ledger" "acceptorCount" "I", Cond.fieldLink RX2 19 "CommitCouncil$Ledger" "unlike" "[Z", Cond.methodLink RX2 26 yJ6_bitCount_0f7a4, Cond.static yJ6_bitCount_0f7a4, Cond.initialized RJ6, Cond.code yJ6_bitCount_0f7a4 cJ6_bitCount_0f7a4 1 (some .int), Cond.constant RJ6 265 (1431655765), Cond.constant RJ6 266 (858993459), Cond.constant RJ6 267 (252645135), Cond.methodLink RX6 74 yX3_send, Cond.instanceMethod yX3_send]
def wsX6_take_r3 : List Cond := [Cond.selects RX3 yX3_send yX3_send, Cond.code yX3_send cX3_send 8 none, Cond.fieldLink RX3 22 "CommitCouncil$Mail" "sent" "I", Cond.methodLink RX6 229 yX6_takeVoted, Cond.instanceMethod yX6_takeVoted, Cond.selects RX6 yX6_takeVoted yX6_takeVoted, Cond.code yX6_takeVoted cX6_takeVoted 6 none, Cond.fieldLink RX6 78 "CommitCouncil$Leader" "highest" "I", Cond.methodLink RX6 256 Lib.Math.max.name, Cond.static Lib.Math.max.name, Cond.initialized "java/lang/Math", Cond.code Lib.Math.max.name Lib.Math.max.code 2 (some .int), Cond.methodLink RX6 213 yX6_voteOf, Cond.methodLink RX6 259 yX1_see, Cond.instanceMethod yX1_see, Cond.selects RX1 yX1_see yX1_see, Cond.initialized RX1, Cond.code yX1_see cX1_see 7 none, Cond.fieldLink RX1 9 "CommitCouncil$Leader" "acceptorCount" "I", Cond.fieldLink RX1 19 "CommitCouncil$Leader" "outcomes" "[I", Cond.fieldLink RX1 22 "CommitCouncil$Leader" "sights" "[I", Cond.fieldLink RX1 49 "CommitCouncil$Leader" "decision" "I", Cond.methodLink RX1 52 yX1_outcomeAfter, Cond.instanceMethod yX1_outcomeAfter]
def wsX6_take_r4 : List Cond := [Cond.selects RX1 yX1_outcomeAfter yX1_outcomeAfter, Cond.code yX1_outcomeAfter cX1_outcomeAfter 6 (some .int), Cond.static yX6_ballotOf, Cond.code yX6_ballotOf cX6_ballotOf 1 (some .int), Cond.methodLink RX1 62 yX1_sightOf, Cond.instanceMethod yX1_sightOf, Cond.selects RX1 yX1_sightOf yX1_sightOf, Cond.code yX1_sightOf cX1_sightOf 4 (some .int), Cond.static yX6_wordOf, Cond.code yX6_wordOf cX6_wordOf 1 (some .int), Cond.methodLink RX1 56 yX1_decisionAfter, Cond.instanceMethod yX1_decisionAfter, Cond.selects RX1 yX1_decisionAfter yX1_decisionAfter, Cond.code yX1_decisionAfter cX1_decisionAfter 6 (some .int), Cond.methodLink RX6 95 yX6_sendDecisions, Cond.instanceMethod yX6_sendDecisions, Cond.selects RX6 yX6_sendDecisions yX6_sendDecisions, Cond.code yX6_sendDecisions cX6_sendDecisions 3 none, Cond.methodLink RX6 233 yX6_takeAsk, Cond.instanceMethod yX6_takeAsk, Cond.selects RX6 yX6_takeAsk yX6_takeAsk, Cond.code yX6_takeAsk cX6_takeAsk 4 none, Cond.fieldLink RX6 144 "CommitCouncil$Acceptor" "accepted" "[I", Cond.methodLink RX6 249 yX6_leaderOf]
def wsX6_take_r5 : List Cond := [Cond.static yX6_leaderOf, Cond.code yX6_leaderOf cX6_leaderOf 1 (some .int), Cond.methodLink RX6 195 yJ9_floorMod_7cf53, Cond.static yJ9_floorMod_7cf53, Cond.initialized RJ9, Cond.code yJ9_floorMod_7cf53 cJ9_floorMod_7cf53 3 (some .int), Cond.methodLink RX6 252 yX3_attach, Cond.instanceMethod yX3_attach, Cond.selects RX3 yX3_attach yX3_attach, Cond.code yX3_attach cX3_attach 2 none, Cond.methodLink RX3 25 arraycopyName, Cond.native arraycopyName, Cond.static arraycopyName, Cond.initialized "java/lang/System", Cond.methodLink RX6 236 yX6_takeTold, Cond.instanceMethod yX6_takeTold, Cond.selects RX6 yX6_takeTold yX6_takeTold, Cond.code yX6_takeTold cX6_takeTold 7 none, Cond.fieldLink RX6 154 "CommitCouncil$Leader" "toldBy" "I", Cond.fieldLink RX6 262 "CommitCouncil$Leader" "latest" "[I", Cond.methodLink RX6 219 yX1_keeps, Cond.instanceMethod yX1_keeps, Cond.selects RX1 yX1_keeps yX1_keeps, Cond.code yX1_keeps cX1_keeps 3 (some .boolean)]
def wsX6_take_r6 : List Cond := [Cond.fieldLink RX1 31 "CommitCouncil$Leader" "phase" "I", Cond.fieldLink RX1 25 "CommitCouncil$Leader" "ballot" "I", Cond.fieldLink RX1 34 "CommitCouncil$Leader" "toldBy" "I", Cond.methodLink RX6 222 yX1_oneMoreIsEnough, Cond.instanceMethod yX1_oneMoreIsEnough, Cond.selects RX1 yX1_oneMoreIsEnough yX1_oneMoreIsEnough, Cond.code yX1_oneMoreIsEnough cX1_oneMoreIsEnough 1 (some .boolean), Cond.methodLink RX1 43 yJ6_bitCount_0f7a4, Cond.methodLink RX6 131 yX3_tidings, Cond.instanceMethod yX3_tidings, Cond.selects RX3 yX3_tidings yX3_tidings, Cond.code yX3_tidings cX3_tidings 3 (some .int), Cond.methodLink RX6 265 yX6_startVoting, Cond.instanceMethod yX6_startVoting, Cond.selects RX6 yX6_startVoting yX6_startVoting, Cond.code yX6_startVoting cX6_startVoting 4 none, Cond.fieldLink RX6 151 "CommitCouncil$Leader" "phase" "I", Cond.fieldLink RX6 148 "CommitCouncil$Leader" "ballot" "I", Cond.methodLink RX6 137 yX6_wordOf, Cond.methodLink RX6 70 yX6_sendVotes, Cond.instanceMethod yX6_sendVotes, Cond.selects RX6 yX6_sendVotes yX6_sendVotes, Cond.code yX6_sendVotes cX6_sendVotes 5 none, Cond.methodLink RX6 239 yX6_takeQuestion]
def wsX6_take_r7 : List Cond := [Cond.instanceMethod yX6_takeQuestion, Cond.selects RX6 yX6_takeQuestion yX6_takeQuestion, Cond.code yX6_takeQuestion cX6_takeQuestion 3 none]
def wsX6_take : List Cond := .code yX6_take cX6_take 5 none :: ((wsX6_take_r1 ++ (wsX6_take_r2 ++ (wsX6_take_r3 ++ (wsX6_take_r4 ++ (wsX6_take_r5 ++ (wsX6_take_r6 ++ wsX6_take_r7)))))) ++ wsX60 ++ wsX40 ++ wsX10 ++ wsX00 ++ wsX30 ++ wsX20)
def wsX6_bring_r1 : List Cond := [Cond.fieldLink RX6 37 "CommitCouncil" "mail" "LCommitCouncil$Mail;", Cond.fieldLink RX6 174 "CommitCouncil" "came" "I", Cond.methodLink RX6 128 yX3_part, Cond.instanceMethod yX3_part, Cond.selects RX3 yX3_part yX3_part, Cond.initialized RX3, Cond.code yX3_part cX3_part 3 (some .int), Cond.fieldLink RX3 19 "CommitCouncil$Mail" "size" "I", Cond.fieldLink RX3 15 "CommitCouncil$Mail" "cells" "[I", Cond.fieldLink RX3 11 "CommitCouncil$Mail" "width" "I", Cond.methodLink RX6 202 yX6_isUp, Cond.instanceMethod yX6_isUp, Cond.selects RX6 yX6_isUp yX6_isUp, Cond.initialized RX6, Cond.code yX6_isUp cX6_isUp 3 (some .boolean), Cond.fieldLink RX6 18 "CommitCouncil" "acceptors" "[LCommitCouncil$Acceptor;", Cond.fieldLink RX6 143 "CommitCouncil$Acceptor" "up" "Z", Cond.sameField "CommitCouncil$Acceptor" "CommitCouncil$Member" "up" "Z", Cond.fieldLink RX6 27 "CommitCouncil" "leaders" "[LCommitCouncil$Leader;", Cond.fieldLink RX6 88 "CommitCouncil$Leader" "up" "Z", Cond.sameField "CommitCouncil$Leader" "CommitCouncil$Member" "up" "Z", Cond.fieldLink RX6 11 "CommitCouncil" "managers" "[LCommitCouncil$Manager;", Cond.fieldLink RX6 59 "CommitCouncil$Manager" "up" "Z", Cond.sameField "CommitCouncil$Manager" "CommitCouncil$Member" "up" "Z"]
def wsX6_bring_r2 : List Cond := [Cond.methodLink RX6 206 yX6_answersTo, Cond.instanceMethod yX6_answersTo, Cond.selects RX6 yX6_answersTo yX6_answersTo, Cond.code yX6_answersTo cX6_answersTo 9 (some .int), Cond.fieldLink RX6 140 "CommitCouncil$Acceptor" "promised" "I", Cond.fieldLink RX6 85 "CommitCouncil$Leader" "decision" "I", Cond.methodLink RX6 213 yX6_voteOf, Cond.static yX6_voteOf, Cond.code yX6_voteOf cX6_voteOf 2 (some .int), Cond.methodLink RX6 216 yX1_decisionAfter, Cond.instanceMethod yX1_decisionAfter, Cond.selects RX1 yX1_decisionAfter yX1_decisionAfter, Cond.initialized RX1, Cond.code yX1_decisionAfter cX1_decisionAfter 6 (some .int), Cond.fieldLink RX1 49 "CommitCouncil$Leader" "decision" "I", Cond.fieldLink RX1 19 "CommitCouncil$Leader" "outcomes" "[I", Cond.methodLink RX1 52 yX1_outcomeAfter, Cond.instanceMethod yX1_outcomeAfter, Cond.selects RX1 yX1_outcomeAfter yX1_outcomeAfter, Cond.code yX1_outcomeAfter cX1_outcomeAfter 6 (some .int), Cond.fieldLink RX1 9 "CommitCouncil$Leader" "acceptorCount" "I", Cond.static yX6_ballotOf, Cond.code yX6_ballotOf cX6_ballotOf 1 (some .int), Cond.methodLink RX1 62 yX1_sightOf]
def wsX6_bring_r3 : List Cond := [Cond.instanceMethod yX1_sightOf, Cond.selects RX1 yX1_sightOf yX1_sightOf, Cond.code yX1_sightOf cX1_sightOf 4 (some .int), Cond.fieldLink RX1 22 "CommitCouncil$Leader" "sights" "[I", Cond.static yX6_wordOf, Cond.code yX6_wordOf cX6_wordOf 1 (some .int), Cond.methodLink RX6 219 yX1_keeps, Cond.instanceMethod yX1_keeps, Cond.selects RX1 yX1_keeps yX1_keeps, Cond.code yX1_keeps cX1_keeps 3 (some .boolean), Cond.fieldLink RX1 31 "CommitCouncil$Leader" "phase" "I", Cond.fieldLink RX1 25 "CommitCouncil$Leader" "ballot" "I", Cond.fieldLink RX1 34 "CommitCouncil$Leader" "toldBy" "I", Cond.methodLink RX6 222 yX1_oneMoreIsEnough, Cond.instanceMethod yX1_oneMoreIsEnough, Cond.selects RX1 yX1_oneMoreIsEnough yX1_oneMoreIsEnough, Cond.code yX1_oneMoreIsEnough cX1_oneMoreIsEnough 1 (some .boolean), Cond.methodLink RX1 43 yJ6_bitCount_0f7a4, Cond.static yJ6_bitCount_0f7a4, Cond.initialized RJ6, Cond.code yJ6_bitCount_0f7a4 cJ6_bitCount_0f7a4 1 (some .int), Cond.constant RJ6 265 (1431655765), Cond.constant RJ6 266 (858993459), Cond.constant RJ6 267 (252645135)]
def wsX6_bring_r4 : List Cond := [Cond.methodLink RX6 63 yX3_hasRoomFor, Cond.instanceMethod yX3_hasRoomFor, Cond.selects RX3 yX3_hasRoomFor yX3_hasRoomFor, Cond.code yX3_hasRoomFor cX3_hasRoomFor 2 (some .boolean), Cond.methodLink RX6 210 yX6_take, Cond.instanceMethod yX6_take, Cond.selects RX6 yX6_take yX6_take, Cond.code yX6_take cX6_take 5 none, Cond.fieldLink RX6 55 "CommitCouncil$Manager" "state" "I", Cond.methodLink RX6 226 yX6_takeVote, Cond.instanceMethod yX6_takeVote, Cond.selects RX6 yX6_takeVote yX6_takeVote, Cond.code yX6_takeVote cX6_takeVote 7 none, Cond.fieldLink RX6 44 "CommitCouncil" "ledger" "LCommitCouncil$Ledger;", Cond.methodLink RX6 242 yX0_accept, Cond.instanceMethod yX0_accept, Cond.selects RX0 yX0_accept yX0_accept, Cond.initialized RX0, Cond.code yX0_accept cX0_accept 4 none, Cond.fieldLink RX0 13 "CommitCouncil$Acceptor" "promised" "I", Cond.fieldLink RX0 7 "CommitCouncil$Acceptor" "accepted" "[I", Cond.methodLink RX6 245 yX2_enter, Cond.instanceMethod yX2_enter, Cond.selects RX2 yX2_enter yX2_enter]
def wsX6_bring_r5 : List Cond := [Cond.initialized RX2, Cond.code yX2_enter cX2_enter 7 none, Cond.fieldLink RX2 15 "CommitCouncil$Ledger" "words" "[I", Cond.fieldLink RX2 23 "CommitCouncil$Ledger" "takers" "[I", Cond.fieldLink RX2 9 "CommitCouncil$Ledger" "acceptorCount" "I", Cond.fieldLink RX2 19 "CommitCouncil$Ledger" "unlike" "[Z", Cond.methodLink RX2 26 yJ6_bitCount_0f7a4, Cond.methodLink RX6 74 yX3_send, Cond.instanceMethod yX3_send, Cond.selects RX3 yX3_send yX3_send, Cond.code yX3_send cX3_send 8 none, Cond.fieldLink RX3 22 "CommitCouncil$Mail" "sent" "I", Cond.methodLink RX6 229 yX6_takeVoted, Cond.instanceMethod yX6_takeVoted, Cond.selects RX6 yX6_takeVoted yX6_takeVoted, Cond.code yX6_takeVoted cX6_takeVoted 6 none, Cond.fieldLink RX6 78 "CommitCouncil$Leader" "highest" "I", Cond.methodLink RX6 256 Lib.Math.max.name, Cond.static Lib.Math.max.name, Cond.initialized "java/lang/Math", Cond.code Lib.Math.max.name Lib.Math.max.code 2 (some .int), Cond.methodLink RX6 259 yX1_see, Cond.instanceMethod yX1_see, Cond.selects RX1 yX1_see yX1_see]
def wsX6_bring_r6 : List Cond := [Cond.code yX1_see cX1_see 7 none, Cond.methodLink RX1 56 yX1_decisionAfter, Cond.methodLink RX6 95 yX6_sendDecisions, Cond.instanceMethod yX6_sendDecisions, Cond.selects RX6 yX6_sendDecisions yX6_sendDecisions, Cond.code yX6_sendDecisions cX6_sendDecisions 3 none, Cond.methodLink RX6 233 yX6_takeAsk, Cond.instanceMethod yX6_takeAsk, Cond.selects RX6 yX6_takeAsk yX6_takeAsk, Cond.code yX6_takeAsk cX6_takeAsk 4 none, Cond.fieldLink RX6 144 "CommitCouncil$Acceptor" "accepted" "[I", Cond.methodLink RX6 249 yX6_leaderOf, Cond.static yX6_leaderOf, Cond.code yX6_leaderOf cX6_leaderOf 1 (some .int), Cond.methodLink RX6 195 yJ9_floorMod_7cf53, Cond.static yJ9_floorMod_7cf53, Cond.initialized RJ9, Cond.code yJ9_floorMod_7cf53 cJ9_floorMod_7cf53 3 (some .int), Cond.methodLink RX6 252 yX3_attach, Cond.instanceMethod yX3_attach, Cond.selects RX3 yX3_attach yX3_attach, Cond.code yX3_attach cX3_attach 2 none, Cond.methodLink RX3 25 arraycopyName, Cond.native arraycopyName]
def wsX6_bring_r7 : List Cond := [Cond.static arraycopyName, Cond.initialized "java/lang/System", Cond.methodLink RX6 236 yX6_takeTold, Cond.instanceMethod yX6_takeTold, Cond.selects RX6 yX6_takeTold yX6_takeTold, Cond.code yX6_takeTold cX6_takeTold 7 none, Cond.fieldLink RX6 154 "CommitCouncil$Leader" "toldBy" "I", Cond.fieldLink RX6 262 "CommitCouncil$Leader" "latest" "[I", Cond.methodLink RX6 131 yX3_tidings, Cond.instanceMethod yX3_tidings, Cond.selects RX3 yX3_tidings yX3_tidings, Cond.code yX3_tidings cX3_tidings 3 (some .int), Cond.methodLink RX6 265 yX6_startVoting, Cond.instanceMethod yX6_startVoting, Cond.selects RX6 yX6_startVoting yX6_startVoting, Cond.code yX6_startVoting cX6_startVoting 4 none, Cond.fieldLink RX6 151 "CommitCouncil$Leader" "phase" "I", Cond.fieldLink RX6 148 "CommitCouncil$Leader" "ballot" "I", Cond.methodLink RX6 137 yX6_wordOf, Cond.methodLink RX6 70 yX6_sendVotes, Cond.instanceMethod yX6_sendVotes, Cond.selects RX6 yX6_sendVotes yX6_sendVotes, Cond.code yX6_sendVotes cX6_sendVotes 5 none, Cond.methodLink RX6 239 yX6_takeQuestion]
def wsX6_bring_r8 : List Cond := [Cond.instanceMethod yX6_takeQuestion, Cond.selects RX6 yX6_takeQuestion yX6_takeQuestion, Cond.code yX6_takeQuestion cX6_takeQuestion 3 none, Cond.methodLink RX6 105 yX3_remove, Cond.instanceMethod yX3_remove, Cond.selects RX3 yX3_remove yX3_remove, Cond.code yX3_remove cX3_remove 2 none]
def wsX6_bring : List Cond := .code yX6_bring cX6_bring 6 (some .int) :: ((wsX6_bring_r1 ++ (wsX6_bring_r2 ++ (wsX6_bring_r3 ++ (wsX6_bring_r4 ++ (wsX6_bring_r5 ++ (wsX6_bring_r6 ++ (wsX6_bring_r7 ++ wsX6_bring_r8))))))) ++ wsX60 ++ wsX30 ++ wsX00 ++ wsX10 ++ wsX40 ++ wsX20)
def wsX6_deliver_r1 : List Cond := [Cond.fieldLink RX6 37 "CommitCouncil" "mail" "LCommitCouncil$Mail;", Cond.fieldLink RX6 98 "CommitCouncil$Mail" "size" "I", Cond.methodLink RX6 48 yX6_checkOne, Cond.static yX6_checkOne, Cond.initialized RX6, Cond.code yX6_checkOne cX6_checkOne 2 none, Cond.classLink RX6 190 "java/lang/IndexOutOfBoundsException", Cond.initialized "java/lang/IndexOutOfBoundsException", Cond.methodLink RX6 101 yX6_bring, Cond.instanceMethod yX6_bring, Cond.selects RX6 yX6_bring yX6_bring, Cond.code yX6_bring cX6_bring 6 (some .int), Cond.fieldLink RX6 174 "CommitCouncil" "came" "I", Cond.methodLink RX6 128 yX3_part, Cond.instanceMethod yX3_part, Cond.selects RX3 yX3_part yX3_part, Cond.initialized RX3, Cond.code yX3_part cX3_part 3 (some .int), Cond.fieldLink RX3 19 "CommitCouncil$Mail" "size" "I", Cond.fieldLink RX3 15 "CommitCouncil$Mail" "cells" "[I", Cond.fieldLink RX3 11 "CommitCouncil$Mail" "width" "I", Cond.methodLink RX6 202 yX6_isUp, Cond.instanceMethod yX6_isUp, Cond.selects RX6 yX6_isUp yX6_isUp]
def wsX6_deliver_r2 : List Cond := [Cond.code yX6_isUp cX6_isUp 3 (some .boolean), Cond.fieldLink RX6 18 "CommitCouncil" "acceptors" "[LCommitCouncil$Acceptor;", Cond.fieldLink RX6 143 "CommitCouncil$Acceptor" "up" "Z", Cond.sameField "CommitCouncil$Acceptor" "CommitCouncil$Member" "up" "Z", Cond.fieldLink RX6 27 "CommitCouncil" "leaders" "[LCommitCouncil$Leader;", Cond.fieldLink RX6 88 "CommitCouncil$Leader" "up" "Z", Cond.sameField "CommitCouncil$Leader" "CommitCouncil$Member" "up" "Z", Cond.fieldLink RX6 11 "CommitCouncil" "managers" "[LCommitCouncil$Manager;", Cond.fieldLink RX6 59 "CommitCouncil$Manager" "up" "Z", Cond.sameField "CommitCouncil$Manager" "CommitCouncil$Member" "up" "Z", Cond.methodLink RX6 206 yX6_answersTo, Cond.instanceMethod yX6_answersTo, Cond.selects RX6 yX6_answersTo yX6_answersTo, Cond.code yX6_answersTo cX6_answersTo 9 (some .int), Cond.fieldLink RX6 140 "CommitCouncil$Acceptor" "promised" "I", Cond.fieldLink RX6 85 "CommitCouncil$Leader" "decision" "I", Cond.methodLink RX6 213 yX6_voteOf, Cond.static yX6_voteOf, Cond.code yX6_voteOf cX6_voteOf 2 (some .int), Cond.methodLink RX6 216 yX1_decisionAfter, Cond.instanceMethod yX1_decisionAfter, Cond.selects RX1 yX1_decisionAfter yX1_decisionAfter, Cond.initialized RX1, Cond.code yX1_decisionAfter cX1_decisionAfter 6 (some .int)]
def wsX6_deliver_r3 : List Cond := [Cond.fieldLink RX1 49 "CommitCouncil$Leader" "decision" "I", Cond.fieldLink RX1 19 "CommitCouncil$Leader" "outcomes" "[I", Cond.methodLink RX1 52 yX1_outcomeAfter, Cond.instanceMethod yX1_outcomeAfter, Cond.selects RX1 yX1_outcomeAfter yX1_outcomeAfter, Cond.code yX1_outcomeAfter cX1_outcomeAfter 6 (some .int), Cond.fieldLink RX1 9 "CommitCouncil$Leader" "acceptorCount" "I", Cond.static yX6_ballotOf, Cond.code yX6_ballotOf cX6_ballotOf 1 (some .int), Cond.methodLink RX1 62 yX1_sightOf, Cond.instanceMethod yX1_sightOf, Cond.selects RX1 yX1_sightOf yX1_sightOf, Cond.code yX1_sightOf cX1_sightOf 4 (some .int), Cond.fieldLink RX1 22 "CommitCouncil$Leader" "sights" "[I", Cond.static yX6_wordOf, Cond.code yX6_wordOf cX6_wordOf 1 (some .int), Cond.methodLink RX6 219 yX1_keeps, Cond.instanceMethod yX1_keeps, Cond.selects RX1 yX1_keeps yX1_keeps, Cond.code yX1_keeps cX1_keeps 3 (some .boolean), Cond.fieldLink RX1 31 "CommitCouncil$Leader" "phase" "I", Cond.fieldLink RX1 25 "CommitCouncil$Leader" "ballot" "I", Cond.fieldLink RX1 34 "CommitCouncil$Leader" "toldBy" "I", Cond.methodLink RX6 222 yX1_oneMoreIsEnough]
def wsX6_deliver_r4 : List Cond := [Cond.instanceMethod yX1_oneMoreIsEnough, Cond.selects RX1 yX1_oneMoreIsEnough yX1_oneMoreIsEnough, Cond.code yX1_oneMoreIsEnough cX1_oneMoreIsEnough 1 (some .boolean), Cond.methodLink RX1 43 yJ6_bitCount_0f7a4, Cond.static yJ6_bitCount_0f7a4, Cond.initialized RJ6, Cond.code yJ6_bitCount_0f7a4 cJ6_bitCount_0f7a4 1 (some .int), Cond.constant RJ6 265 (1431655765), Cond.constant RJ6 266 (858993459), Cond.constant RJ6 267 (252645135), Cond.methodLink RX6 63 yX3_hasRoomFor, Cond.instanceMethod yX3_hasRoomFor, Cond.selects RX3 yX3_hasRoomFor yX3_hasRoomFor, Cond.code yX3_hasRoomFor cX3_hasRoomFor 2 (some .boolean), Cond.methodLink RX6 210 yX6_take, Cond.instanceMethod yX6_take, Cond.selects RX6 yX6_take yX6_take, Cond.code yX6_take cX6_take 5 none, Cond.fieldLink RX6 55 "CommitCouncil$Manager" "state" "I", Cond.methodLink RX6 226 yX6_takeVote, Cond.instanceMethod yX6_takeVote, Cond.selects RX6 yX6_takeVote yX6_takeVote, Cond.code yX6_takeVote cX6_takeVote 7 none, Cond.fieldLink RX6 44 "CommitCouncil" "ledger" "LCommitCouncil$Ledger;"]
def wsX6_deliver_r5 : List Cond := [Cond.methodLink RX6 242 yX0_accept, Cond.instanceMethod yX0_accept, Cond.selects RX0 yX0_accept yX0_accept, Cond.initialized RX0, Cond.code yX0_accept cX0_accept 4 none, Cond.fieldLink RX0 13 "CommitCouncil$Acceptor" "promised" "I", Cond.fieldLink RX0 7 "CommitCouncil$Acceptor" "accepted" "[I", Cond.methodLink RX6 245 yX2_enter, Cond.instanceMethod yX2_enter, Cond.selects RX2 yX2_enter yX2_enter, Cond.initialized RX2, Cond.code yX2_enter cX2_enter 7 none, Cond.fieldLink RX2 15 "CommitCouncil$Ledger" "words" "[I", Cond.fieldLink RX2 23 "CommitCouncil$Ledger" "takers" "[I", Cond.fieldLink RX2 9 "CommitCouncil$Ledger" "acceptorCount" "I", Cond.fieldLink RX2 19 "CommitCouncil$Ledger" "unlike" "[Z", Cond.methodLink RX2 26 yJ6_bitCount_0f7a4, Cond.methodLink RX6 74 yX3_send, Cond.instanceMethod yX3_send, Cond.selects RX3 yX3_send yX3_send, Cond.code yX3_send cX3_send 8 none, Cond.fieldLink RX3 22 "CommitCouncil$Mail" "sent" "I", Cond.methodLink RX6 229 yX6_takeVoted, Cond.instanceMethod yX6_takeVoted]
def wsX6_deliver_r6 : List Cond := [Cond.selects RX6 yX6_takeVoted yX6_takeVoted, Cond.code yX6_takeVoted cX6_takeVoted 6 none, Cond.fieldLink RX6 78 "CommitCouncil$Leader" "highest" "I", Cond.methodLink RX6 256 Lib.Math.max.name, Cond.static Lib.Math.max.name, Cond.initialized "java/lang/Math", Cond.code Lib.Math.max.name Lib.Math.max.code 2 (some .int), Cond.methodLink RX6 259 yX1_see, Cond.instanceMethod yX1_see, Cond.selects RX1 yX1_see yX1_see, Cond.code yX1_see cX1_see 7 none, Cond.methodLink RX1 56 yX1_decisionAfter, Cond.methodLink RX6 95 yX6_sendDecisions, Cond.instanceMethod yX6_sendDecisions, Cond.selects RX6 yX6_sendDecisions yX6_sendDecisions, Cond.code yX6_sendDecisions cX6_sendDecisions 3 none, Cond.methodLink RX6 233 yX6_takeAsk, Cond.instanceMethod yX6_takeAsk, Cond.selects RX6 yX6_takeAsk yX6_takeAsk, Cond.code yX6_takeAsk cX6_takeAsk 4 none, Cond.fieldLink RX6 144 "CommitCouncil$Acceptor" "accepted" "[I", Cond.methodLink RX6 249 yX6_leaderOf, Cond.static yX6_leaderOf, Cond.code yX6_leaderOf cX6_leaderOf 1 (some .int)]
def wsX6_deliver_r7 : List Cond := [Cond.methodLink RX6 195 yJ9_floorMod_7cf53, Cond.static yJ9_floorMod_7cf53, Cond.initialized RJ9, Cond.code yJ9_floorMod_7cf53 cJ9_floorMod_7cf53 3 (some .int), Cond.methodLink RX6 252 yX3_attach, Cond.instanceMethod yX3_attach, Cond.selects RX3 yX3_attach yX3_attach, Cond.code yX3_attach cX3_attach 2 none, Cond.methodLink RX3 25 arraycopyName, Cond.native arraycopyName, Cond.static arraycopyName, Cond.initialized "java/lang/System", Cond.methodLink RX6 236 yX6_takeTold, Cond.instanceMethod yX6_takeTold, Cond.selects RX6 yX6_takeTold yX6_takeTold, Cond.code yX6_takeTold cX6_takeTold 7 none, Cond.fieldLink RX6 154 "CommitCouncil$Leader" "toldBy" "I", Cond.fieldLink RX6 262 "CommitCouncil$Leader" "latest" "[I", Cond.methodLink RX6 131 yX3_tidings, Cond.instanceMethod yX3_tidings, Cond.selects RX3 yX3_tidings yX3_tidings, Cond.code yX3_tidings cX3_tidings 3 (some .int), Cond.methodLink RX6 265 yX6_startVoting, Cond.instanceMethod yX6_startVoting]
def wsX6_deliver_r8 : List Cond := [Cond.selects RX6 yX6_startVoting yX6_startVoting, Cond.code yX6_startVoting cX6_startVoting 4 none, Cond.fieldLink RX6 151 "CommitCouncil$Leader" "phase" "I", Cond.fieldLink RX6 148 "CommitCouncil$Leader" "ballot" "I", Cond.methodLink RX6 137 yX6_wordOf, Cond.methodLink RX6 70 yX6_sendVotes, Cond.instanceMethod yX6_sendVotes, Cond.selects RX6 yX6_sendVotes yX6_sendVotes, Cond.code yX6_sendVotes cX6_sendVotes 5 none, Cond.methodLink RX6 239 yX6_takeQuestion, Cond.instanceMethod yX6_takeQuestion, Cond.selects RX6 yX6_takeQuestion yX6_takeQuestion, Cond.code yX6_takeQuestion cX6_takeQuestion 3 none, Cond.methodLink RX6 105 yX3_remove, Cond.instanceMethod yX3_remove, Cond.selects RX3 yX3_remove yX3_remove, Cond.code yX3_remove cX3_remove 2 none]
def wsX6_deliver : List Cond := .code yX6_deliver cX6_deliver 2 (some .int) :: ((wsX6_deliver_r1 ++ (wsX6_deliver_r2 ++ (wsX6_deliver_r3 ++ (wsX6_deliver_r4 ++ (wsX6_deliver_r5 ++ (wsX6_deliver_r6 ++ (wsX6_deliver_r7 ++ wsX6_deliver_r8))))))) ++ wsX60 ++ wsX30 ++ wsX00 ++ wsX10 ++ wsX40 ++ wsX20 ++ (vx_atS RX6 194 "java/lang/IndexOutOfBoundsException" ["java/lang/RuntimeException", "java/lang/Exception"]).filter goodWord)
def wsX6_drop : List Cond := .code yX6_drop cX6_drop 2 none :: ([.fieldLink RX6 37 "CommitCouncil" "mail" "LCommitCouncil$Mail;", .fieldLink RX6 98 "CommitCouncil$Mail" "size" "I", .methodLink RX6 48 yX6_checkOne, .static yX6_checkOne, .initialized RX6, .code yX6_checkOne cX6_checkOne 2 none, .classLink RX6 190 "java/lang/IndexOutOfBoundsException", .initialized "java/lang/IndexOutOfBoundsException", .methodLink RX6 105 yX3_remove, .instanceMethod yX3_remove, .selects RX3 yX3_remove yX3_remove, .initialized RX3, .code yX3_remove cX3_remove 2 none, .fieldLink RX3 19 "CommitCouncil$Mail" "size" "I", .fieldLink RX3 15 "CommitCouncil$Mail" "cells" "[I", .fieldLink RX3 11 "CommitCouncil$Mail" "width" "I", .methodLink RX3 25 arraycopyName, .native arraycopyName, .static arraycopyName, .initialized "java/lang/System"] ++ wsX60 ++ wsX30 ++ (vx_atS RX6 194 "java/lang/IndexOutOfBoundsException" ["java/lang/RuntimeException", "java/lang/Exception"]).filter goodWord)
def wsX6_copy_r1 : List Cond := [Cond.fieldLink RX6 37 "CommitCouncil" "mail" "LCommitCouncil$Mail;", Cond.fieldLink RX6 98 "CommitCouncil$Mail" "size" "I", Cond.methodLink RX6 48 yX6_checkOne, Cond.static yX6_checkOne, Cond.initialized RX6, Cond.code yX6_checkOne cX6_checkOne 2 none, Cond.classLink RX6 190 "java/lang/IndexOutOfBoundsException", Cond.initialized "java/lang/IndexOutOfBoundsException", Cond.methodLink RX6 63 yX3_hasRoomFor, Cond.instanceMethod yX3_hasRoomFor, Cond.selects RX3 yX3_hasRoomFor yX3_hasRoomFor, Cond.initialized RX3, Cond.code yX3_hasRoomFor cX3_hasRoomFor 2 (some .boolean), Cond.fieldLink RX3 19 "CommitCouncil$Mail" "size" "I", Cond.methodLink RX6 108 yX3_sendLike, Cond.instanceMethod yX3_sendLike, Cond.selects RX3 yX3_sendLike yX3_sendLike, Cond.code yX3_sendLike cX3_sendLike 2 none, Cond.fieldLink RX3 15 "CommitCouncil$Mail" "cells" "[I", Cond.fieldLink RX3 11 "CommitCouncil$Mail" "width" "I", Cond.methodLink RX3 25 arraycopyName, Cond.native arraycopyName, Cond.static arraycopyName, Cond.initialized "java/lang/System"]
def wsX6_copy_r2 : List Cond := [Cond.fieldLink RX3 22 "CommitCouncil$Mail" "sent" "I"]
def wsX6_copy : List Cond := .code yX6_copy cX6_copy 2 (some .int) :: ((wsX6_copy_r1 ++ wsX6_copy_r2) ++ wsX60 ++ wsX30 ++ (vx_atS RX6 194 "java/lang/IndexOutOfBoundsException" ["java/lang/RuntimeException", "java/lang/Exception"]).filter goodWord)
def wsX6_calm_r1 : List Cond := [Cond.classLink RX6 111 "java/lang/IllegalArgumentException", Cond.initialized "java/lang/IllegalArgumentException", Cond.fieldLink RX6 37 "CommitCouncil" "mail" "LCommitCouncil$Mail;", Cond.fieldLink RX6 98 "CommitCouncil$Mail" "size" "I", Cond.methodLink RX6 101 yX6_bring, Cond.instanceMethod yX6_bring, Cond.selects RX6 yX6_bring yX6_bring, Cond.initialized RX6, Cond.code yX6_bring cX6_bring 6 (some .int), Cond.fieldLink RX6 174 "CommitCouncil" "came" "I", Cond.methodLink RX6 128 yX3_part, Cond.instanceMethod yX3_part, Cond.selects RX3 yX3_part yX3_part, Cond.initialized RX3, Cond.code yX3_part cX3_part 3 (some .int), Cond.fieldLink RX3 19 "CommitCouncil$Mail" "size" "I", Cond.fieldLink RX3 15 "CommitCouncil$Mail" "cells" "[I", Cond.fieldLink RX3 11 "CommitCouncil$Mail" "width" "I", Cond.methodLink RX6 202 yX6_isUp, Cond.instanceMethod yX6_isUp, Cond.selects RX6 yX6_isUp yX6_isUp, Cond.code yX6_isUp cX6_isUp 3 (some .boolean), Cond.fieldLink RX6 18 "CommitCouncil" "acceptors" "[LCommitCouncil$Acceptor;", Cond.fieldLink RX6 143 "CommitCouncil$Acceptor" "up" "Z"]
def wsX6_calm_r2 : List Cond := [Cond.sameField "CommitCouncil$Acceptor" "CommitCouncil$Member" "up" "Z", Cond.fieldLink RX6 27 "CommitCouncil" "leaders" "[LCommitCouncil$Leader;", Cond.fieldLink RX6 88 "CommitCouncil$Leader" "up" "Z", Cond.sameField "CommitCouncil$Leader" "CommitCouncil$Member" "up" "Z", Cond.fieldLink RX6 11 "CommitCouncil" "managers" "[LCommitCouncil$Manager;", Cond.fieldLink RX6 59 "CommitCouncil$Manager" "up" "Z", Cond.sameField "CommitCouncil$Manager" "CommitCouncil$Member" "up" "Z", Cond.methodLink RX6 206 yX6_answersTo, Cond.instanceMethod yX6_answersTo, Cond.selects RX6 yX6_answersTo yX6_answersTo, Cond.code yX6_answersTo cX6_answersTo 9 (some .int), Cond.fieldLink RX6 140 "CommitCouncil$Acceptor" "promised" "I", Cond.fieldLink RX6 85 "CommitCouncil$Leader" "decision" "I", Cond.methodLink RX6 213 yX6_voteOf, Cond.static yX6_voteOf, Cond.code yX6_voteOf cX6_voteOf 2 (some .int), Cond.methodLink RX6 216 yX1_decisionAfter, Cond.instanceMethod yX1_decisionAfter, Cond.selects RX1 yX1_decisionAfter yX1_decisionAfter, Cond.initialized RX1, Cond.code yX1_decisionAfter cX1_decisionAfter 6 (some .int), Cond.fieldLink RX1 49 "CommitCouncil$Leader" "decision" "I", Cond.fieldLink RX1 19 "CommitCouncil$Leader" "outcomes" "[I", Cond.methodLink RX1 52 yX1_outcomeAfter]
def wsX6_calm_r3 : List Cond := [Cond.instanceMethod yX1_outcomeAfter, Cond.selects RX1 yX1_outcomeAfter yX1_outcomeAfter, Cond.code yX1_outcomeAfter cX1_outcomeAfter 6 (some .int), Cond.fieldLink RX1 9 "CommitCouncil$Leader" "acceptorCount" "I", Cond.static yX6_ballotOf, Cond.code yX6_ballotOf cX6_ballotOf 1 (some .int), Cond.methodLink RX1 62 yX1_sightOf, Cond.instanceMethod yX1_sightOf, Cond.selects RX1 yX1_sightOf yX1_sightOf, Cond.code yX1_sightOf cX1_sightOf 4 (some .int), Cond.fieldLink RX1 22 "CommitCouncil$Leader" "sights" "[I", Cond.static yX6_wordOf, Cond.code yX6_wordOf cX6_wordOf 1 (some .int), Cond.methodLink RX6 219 yX1_keeps, Cond.instanceMethod yX1_keeps, Cond.selects RX1 yX1_keeps yX1_keeps, Cond.code yX1_keeps cX1_keeps 3 (some .boolean), Cond.fieldLink RX1 31 "CommitCouncil$Leader" "phase" "I", Cond.fieldLink RX1 25 "CommitCouncil$Leader" "ballot" "I", Cond.fieldLink RX1 34 "CommitCouncil$Leader" "toldBy" "I", Cond.methodLink RX6 222 yX1_oneMoreIsEnough, Cond.instanceMethod yX1_oneMoreIsEnough, Cond.selects RX1 yX1_oneMoreIsEnough yX1_oneMoreIsEnough, Cond.code yX1_oneMoreIsEnough cX1_oneMoreIsEnough 1 (some .boolean)]
def wsX6_calm_r4 : List Cond := [Cond.methodLink RX1 43 yJ6_bitCount_0f7a4, Cond.static yJ6_bitCount_0f7a4, Cond.initialized RJ6, Cond.code yJ6_bitCount_0f7a4 cJ6_bitCount_0f7a4 1 (some .int), Cond.constant RJ6 265 (1431655765), Cond.constant RJ6 266 (858993459), Cond.constant RJ6 267 (252645135), Cond.methodLink RX6 63 yX3_hasRoomFor, Cond.instanceMethod yX3_hasRoomFor, Cond.selects RX3 yX3_hasRoomFor yX3_hasRoomFor, Cond.code yX3_hasRoomFor cX3_hasRoomFor 2 (some .boolean), Cond.methodLink RX6 210 yX6_take, Cond.instanceMethod yX6_take, Cond.selects RX6 yX6_take yX6_take, Cond.code yX6_take cX6_take 5 none, Cond.fieldLink RX6 55 "CommitCouncil$Manager" "state" "I", Cond.methodLink RX6 226 yX6_takeVote, Cond.instanceMethod yX6_takeVote, Cond.selects RX6 yX6_takeVote yX6_takeVote, Cond.code yX6_takeVote cX6_takeVote 7 none, Cond.fieldLink RX6 44 "CommitCouncil" "ledger" "LCommitCouncil$Ledger;", Cond.methodLink RX6 242 yX0_accept, Cond.instanceMethod yX0_accept, Cond.selects RX0 yX0_accept yX0_accept]
def wsX6_calm_r5 : List Cond := [Cond.initialized RX0, Cond.code yX0_accept cX0_accept 4 none, Cond.fieldLink RX0 13 "CommitCouncil$Acceptor" "promised" "I", Cond.fieldLink RX0 7 "CommitCouncil$Acceptor" "accepted" "[I", Cond.methodLink RX6 245 yX2_enter, Cond.instanceMethod yX2_enter, Cond.selects RX2 yX2_enter yX2_enter, Cond.initialized RX2, Cond.code yX2_enter cX2_enter 7 none, Cond.fieldLink RX2 15 "CommitCouncil$Ledger" "words" "[I", Cond.fieldLink RX2 23 "CommitCouncil$Ledger" "takers" "[I", Cond.fieldLink RX2 9 "CommitCouncil$Ledger" "acceptorCount" "I", Cond.fieldLink RX2 19 "CommitCouncil$Ledger" "unlike" "[Z", Cond.methodLink RX2 26 yJ6_bitCount_0f7a4, Cond.methodLink RX6 74 yX3_send, Cond.instanceMethod yX3_send, Cond.selects RX3 yX3_send yX3_send, Cond.code yX3_send cX3_send 8 none, Cond.fieldLink RX3 22 "CommitCouncil$Mail" "sent" "I", Cond.methodLink RX6 229 yX6_takeVoted, Cond.instanceMethod yX6_takeVoted, Cond.selects RX6 yX6_takeVoted yX6_takeVoted, Cond.code yX6_takeVoted cX6_takeVoted 6 none, Cond.fieldLink RX6 78 "CommitCouncil$Leader" "highest" "I"]
def wsX6_calm_r6 : List Cond := [Cond.methodLink RX6 256 Lib.Math.max.name, Cond.static Lib.Math.max.name, Cond.initialized "java/lang/Math", Cond.code Lib.Math.max.name Lib.Math.max.code 2 (some .int), Cond.methodLink RX6 259 yX1_see, Cond.instanceMethod yX1_see, Cond.selects RX1 yX1_see yX1_see, Cond.code yX1_see cX1_see 7 none, Cond.methodLink RX1 56 yX1_decisionAfter, Cond.methodLink RX6 95 yX6_sendDecisions, Cond.instanceMethod yX6_sendDecisions, Cond.selects RX6 yX6_sendDecisions yX6_sendDecisions, Cond.code yX6_sendDecisions cX6_sendDecisions 3 none, Cond.methodLink RX6 233 yX6_takeAsk, Cond.instanceMethod yX6_takeAsk, Cond.selects RX6 yX6_takeAsk yX6_takeAsk, Cond.code yX6_takeAsk cX6_takeAsk 4 none, Cond.fieldLink RX6 144 "CommitCouncil$Acceptor" "accepted" "[I", Cond.methodLink RX6 249 yX6_leaderOf, Cond.static yX6_leaderOf, Cond.code yX6_leaderOf cX6_leaderOf 1 (some .int), Cond.methodLink RX6 195 yJ9_floorMod_7cf53, Cond.static yJ9_floorMod_7cf53, Cond.initialized RJ9]
def wsX6_calm_r7 : List Cond := [Cond.code yJ9_floorMod_7cf53 cJ9_floorMod_7cf53 3 (some .int), Cond.methodLink RX6 252 yX3_attach, Cond.instanceMethod yX3_attach, Cond.selects RX3 yX3_attach yX3_attach, Cond.code yX3_attach cX3_attach 2 none, Cond.methodLink RX3 25 arraycopyName, Cond.native arraycopyName, Cond.static arraycopyName, Cond.initialized "java/lang/System", Cond.methodLink RX6 236 yX6_takeTold, Cond.instanceMethod yX6_takeTold, Cond.selects RX6 yX6_takeTold yX6_takeTold, Cond.code yX6_takeTold cX6_takeTold 7 none, Cond.fieldLink RX6 154 "CommitCouncil$Leader" "toldBy" "I", Cond.fieldLink RX6 262 "CommitCouncil$Leader" "latest" "[I", Cond.methodLink RX6 131 yX3_tidings, Cond.instanceMethod yX3_tidings, Cond.selects RX3 yX3_tidings yX3_tidings, Cond.code yX3_tidings cX3_tidings 3 (some .int), Cond.methodLink RX6 265 yX6_startVoting, Cond.instanceMethod yX6_startVoting, Cond.selects RX6 yX6_startVoting yX6_startVoting, Cond.code yX6_startVoting cX6_startVoting 4 none, Cond.fieldLink RX6 151 "CommitCouncil$Leader" "phase" "I"]
def wsX6_calm_r8 : List Cond := [Cond.fieldLink RX6 148 "CommitCouncil$Leader" "ballot" "I", Cond.methodLink RX6 137 yX6_wordOf, Cond.methodLink RX6 70 yX6_sendVotes, Cond.instanceMethod yX6_sendVotes, Cond.selects RX6 yX6_sendVotes yX6_sendVotes, Cond.code yX6_sendVotes cX6_sendVotes 5 none, Cond.methodLink RX6 239 yX6_takeQuestion, Cond.instanceMethod yX6_takeQuestion, Cond.selects RX6 yX6_takeQuestion yX6_takeQuestion, Cond.code yX6_takeQuestion cX6_takeQuestion 3 none, Cond.methodLink RX6 105 yX3_remove, Cond.instanceMethod yX3_remove, Cond.selects RX3 yX3_remove yX3_remove, Cond.code yX3_remove cX3_remove 2 none]
def wsX6_calm : List Cond := .code yX6_calm cX6_calm 3 (some .int) :: ((wsX6_calm_r1 ++ (wsX6_calm_r2 ++ (wsX6_calm_r3 ++ (wsX6_calm_r4 ++ (wsX6_calm_r5 ++ (wsX6_calm_r6 ++ (wsX6_calm_r7 ++ wsX6_calm_r8))))))) ++ wsX60 ++ wsX30 ++ wsX00 ++ wsX10 ++ wsX40 ++ wsX20 ++ (vx_atS RX6 115 "java/lang/IllegalArgumentException" ["java/lang/RuntimeException", "java/lang/Exception"]).filter goodWord)
def wsX6_memberOf : List Cond := .code yX6_memberOf cX6_memberOf 3 (some (.object "CommitCouncil$Member")) :: ([.classLink RX6 111 "java/lang/IllegalArgumentException", .initialized "java/lang/IllegalArgumentException", .fieldLink RX6 11 "CommitCouncil" "managers" "[LCommitCouncil$Manager;", .fieldLink RX6 18 "CommitCouncil" "acceptors" "[LCommitCouncil$Acceptor;", .fieldLink RX6 27 "CommitCouncil" "leaders" "[LCommitCouncil$Leader;", .methodLink RX6 48 yX6_checkOne, .static yX6_checkOne, .initialized RX6, .code yX6_checkOne cX6_checkOne 2 none, .classLink RX6 190 "java/lang/IndexOutOfBoundsException", .initialized "java/lang/IndexOutOfBoundsException"] ++ wsX60 ++ (vx_atS RX6 115 "java/lang/IllegalArgumentException" ["java/lang/RuntimeException", "java/lang/Exception"]).filter goodWord ++ (vx_atS RX6 194 "java/lang/IndexOutOfBoundsException" ["java/lang/RuntimeException", "java/lang/Exception"]).filter goodWord)
def wsX6_crash_r1 : List Cond := [Cond.fieldLink RX6 122 "CommitCouncil$Member" "up" "Z", Cond.methodLink RX6 118 yX6_memberOf, Cond.instanceMethod yX6_memberOf, Cond.selects RX6 yX6_memberOf yX6_memberOf, Cond.initialized RX6, Cond.code yX6_memberOf cX6_memberOf 3 (some (.object "CommitCouncil$Member")), Cond.classLink RX6 111 "java/lang/IllegalArgumentException", Cond.initialized "java/lang/IllegalArgumentException", Cond.fieldLink RX6 11 "CommitCouncil" "managers" "[LCommitCouncil$Manager;", Cond.fieldLink RX6 18 "CommitCouncil" "acceptors" "[LCommitCouncil$Acceptor;", Cond.fieldLink RX6 27 "CommitCouncil" "leaders" "[LCommitCouncil$Leader;", Cond.methodLink RX6 48 yX6_checkOne, Cond.static yX6_checkOne, Cond.code yX6_checkOne cX6_checkOne 2 none, Cond.classLink RX6 190 "java/lang/IndexOutOfBoundsException", Cond.initialized "java/lang/IndexOutOfBoundsException", Cond.methodLink RX6 125 ⟨"CommitCouncil$Member", "forget", "()V"⟩, Cond.sameMethod "CommitCouncil$Member" "CommitCouncil$Member" "forget" "()V", Cond.selects RX0 ⟨"CommitCouncil$Member", "forget", "()V"⟩ yX5_forget, Cond.instanceMethod yX5_forget, Cond.initialized RX5, Cond.code yX5_forget cX5_forget 1 none, Cond.instanceMethod ⟨"CommitCouncil$Member", "forget", "()V"⟩, Cond.selects RX1 ⟨"CommitCouncil$Member", "forget", "()V"⟩ yX1_forget]
def wsX6_crash_r2 : List Cond := [Cond.instanceMethod yX1_forget, Cond.initialized RX1, Cond.code yX1_forget cX1_forget 1 none, Cond.fieldLink RX1 31 "CommitCouncil$Leader" "phase" "I", Cond.fieldLink RX1 49 "CommitCouncil$Leader" "decision" "I", Cond.fieldLink RX1 34 "CommitCouncil$Leader" "toldBy" "I", Cond.fieldLink RX1 15 "CommitCouncil$Leader" "latest" "[I", Cond.fieldLink RX1 19 "CommitCouncil$Leader" "outcomes" "[I", Cond.fieldLink RX1 22 "CommitCouncil$Leader" "sights" "[I", Cond.methodLink RX1 37 yJ7_fill_53178, Cond.static yJ7_fill_53178, Cond.initialized RJ7, Cond.code yJ7_fill_53178 cJ7_fill_53178 4 none, Cond.selects RX4 ⟨"CommitCouncil$Member", "forget", "()V"⟩ yX5_forget]
def wsX6_crash : List Cond := .code yX6_crash cX6_crash 4 (some .boolean) :: ((wsX6_crash_r1 ++ wsX6_crash_r2) ++ wsX00 ++ wsX10 ++ wsX40 ++ wsX60 ++ (vx_atS RX6 115 "java/lang/IllegalArgumentException" ["java/lang/RuntimeException", "java/lang/Exception"]).filter goodWord ++ (vx_atS RX6 194 "java/lang/IndexOutOfBoundsException" ["java/lang/RuntimeException", "java/lang/Exception"]).filter goodWord)
def wsX6_recover : List Cond := .code yX6_recover cX6_recover 5 (some .boolean) :: ([.fieldLink RX6 122 "CommitCouncil$Member" "up" "Z", .methodLink RX6 118 yX6_memberOf, .instanceMethod yX6_memberOf, .selects RX6 yX6_memberOf yX6_memberOf, .initialized RX6, .code yX6_memberOf cX6_memberOf 3 (some (.object "CommitCouncil$Member")), .classLink RX6 111 "java/lang/IllegalArgumentException", .initialized "java/lang/IllegalArgumentException", .fieldLink RX6 11 "CommitCouncil" "managers" "[LCommitCouncil$Manager;", .fieldLink RX6 18 "CommitCouncil" "acceptors" "[LCommitCouncil$Acceptor;", .fieldLink RX6 27 "CommitCouncil" "leaders" "[LCommitCouncil$Leader;", .methodLink RX6 48 yX6_checkOne, .static yX6_checkOne, .code yX6_checkOne cX6_checkOne 2 none, .classLink RX6 190 "java/lang/IndexOutOfBoundsException", .initialized "java/lang/IndexOutOfBoundsException"] ++ wsX00 ++ wsX10 ++ wsX40 ++ wsX60 ++ (vx_atS RX6 115 "java/lang/IllegalArgumentException" ["java/lang/RuntimeException", "java/lang/Exception"]).filter goodWord ++ (vx_atS RX6 194 "java/lang/IndexOutOfBoundsException" ["java/lang/RuntimeException", "java/lang/Exception"]).filter goodWord)
def wsX6_message : List Cond := .code yX6_message cX6_message 3 (some .int) :: ([.fieldLink RX6 37 "CommitCouncil" "mail" "LCommitCouncil$Mail;", .fieldLink RX6 98 "CommitCouncil$Mail" "size" "I", .methodLink RX6 48 yX6_checkOne, .static yX6_checkOne, .initialized RX6, .code yX6_checkOne cX6_checkOne 2 none, .classLink RX6 190 "java/lang/IndexOutOfBoundsException", .initialized "java/lang/IndexOutOfBoundsException", .methodLink RX6 128 yX3_part, .instanceMethod yX3_part, .selects RX3 yX3_part yX3_part, .initialized RX3, .code yX3_part cX3_part 3 (some .int), .fieldLink RX3 19 "CommitCouncil$Mail" "size" "I", .fieldLink RX3 15 "CommitCouncil$Mail" "cells" "[I", .fieldLink RX3 11 "CommitCouncil$Mail" "width" "I"] ++ wsX60 ++ wsX30 ++ (vx_atS RX6 194 "java/lang/IndexOutOfBoundsException" ["java/lang/RuntimeException", "java/lang/Exception"]).filter goodWord)
def wsX6_told_r1 : List Cond := [Cond.fieldLink RX6 37 "CommitCouncil" "mail" "LCommitCouncil$Mail;", Cond.fieldLink RX6 98 "CommitCouncil$Mail" "size" "I", Cond.fieldLink RX6 11 "CommitCouncil" "managers" "[LCommitCouncil$Manager;", Cond.methodLink RX6 48 yX6_checkOne, Cond.static yX6_checkOne, Cond.initialized RX6, Cond.code yX6_checkOne cX6_checkOne 2 none, Cond.classLink RX6 190 "java/lang/IndexOutOfBoundsException", Cond.initialized "java/lang/IndexOutOfBoundsException", Cond.methodLink RX6 128 yX3_part, Cond.instanceMethod yX3_part, Cond.selects RX3 yX3_part yX3_part, Cond.initialized RX3, Cond.code yX3_part cX3_part 3 (some .int), Cond.fieldLink RX3 19 "CommitCouncil$Mail" "size" "I", Cond.fieldLink RX3 15 "CommitCouncil$Mail" "cells" "[I", Cond.fieldLink RX3 11 "CommitCouncil$Mail" "width" "I", Cond.methodLink RX6 131 yX3_tidings, Cond.instanceMethod yX3_tidings, Cond.selects RX3 yX3_tidings yX3_tidings, Cond.code yX3_tidings cX3_tidings 3 (some .int), Cond.methodLink RX6 134 yX6_ballotOf, Cond.static yX6_ballotOf, Cond.code yX6_ballotOf cX6_ballotOf 1 (some .int)]
def wsX6_told_r2 : List Cond := [Cond.methodLink RX6 137 yX6_wordOf, Cond.static yX6_wordOf, Cond.code yX6_wordOf cX6_wordOf 1 (some .int)]
def wsX6_told : List Cond := .code yX6_told cX6_told 5 (some .int) :: ((wsX6_told_r1 ++ wsX6_told_r2) ++ wsX60 ++ wsX30 ++ (vx_atS RX6 194 "java/lang/IndexOutOfBoundsException" ["java/lang/RuntimeException", "java/lang/Exception"]).filter goodWord)
def wsX6_manager : List Cond := .code yX6_manager cX6_manager 4 (some .int) :: ([.fieldLink RX6 11 "CommitCouncil" "managers" "[LCommitCouncil$Manager;", .fieldLink RX6 55 "CommitCouncil$Manager" "state" "I", .fieldLink RX6 59 "CommitCouncil$Manager" "up" "Z", .sameField "CommitCouncil$Manager" "CommitCouncil$Member" "up" "Z", .methodLink RX6 48 yX6_checkOne, .static yX6_checkOne, .initialized RX6, .code yX6_checkOne cX6_checkOne 2 none, .classLink RX6 190 "java/lang/IndexOutOfBoundsException", .initialized "java/lang/IndexOutOfBoundsException"] ++ wsX60 ++ wsX40 ++ wsX00 ++ wsX10 ++ (vx_atS RX6 194 "java/lang/IndexOutOfBoundsException" ["java/lang/RuntimeException", "java/lang/Exception"]).filter goodWord)
def wsX6_acceptor : List Cond := .code yX6_acceptor cX6_acceptor 5 (some .int) :: ([.fieldLink RX6 18 "CommitCouncil" "acceptors" "[LCommitCouncil$Acceptor;", .fieldLink RX6 11 "CommitCouncil" "managers" "[LCommitCouncil$Manager;", .fieldLink RX6 140 "CommitCouncil$Acceptor" "promised" "I", .fieldLink RX6 143 "CommitCouncil$Acceptor" "up" "Z", .sameField "CommitCouncil$Acceptor" "CommitCouncil$Member" "up" "Z", .fieldLink RX6 144 "CommitCouncil$Acceptor" "accepted" "[I", .methodLink RX6 48 yX6_checkOne, .static yX6_checkOne, .initialized RX6, .code yX6_checkOne cX6_checkOne 2 none, .classLink RX6 190 "java/lang/IndexOutOfBoundsException", .initialized "java/lang/IndexOutOfBoundsException", .methodLink RX6 134 yX6_ballotOf, .static yX6_ballotOf, .code yX6_ballotOf cX6_ballotOf 1 (some .int), .methodLink RX6 137 yX6_wordOf, .static yX6_wordOf, .code yX6_wordOf cX6_wordOf 1 (some .int)] ++ wsX60 ++ wsX00 ++ wsX10 ++ wsX40 ++ (vx_atS RX6 194 "java/lang/IndexOutOfBoundsException" ["java/lang/RuntimeException", "java/lang/Exception"]).filter goodWord)
def wsX6_leader : List Cond := .code yX6_leader cX6_leader 4 (some .int) :: ([.fieldLink RX6 27 "CommitCouncil" "leaders" "[LCommitCouncil$Leader;", .fieldLink RX6 148 "CommitCouncil$Leader" "ballot" "I", .fieldLink RX6 151 "CommitCouncil$Leader" "phase" "I", .fieldLink RX6 78 "CommitCouncil$Leader" "highest" "I", .fieldLink RX6 85 "CommitCouncil$Leader" "decision" "I", .fieldLink RX6 88 "CommitCouncil$Leader" "up" "Z", .sameField "CommitCouncil$Leader" "CommitCouncil$Member" "up" "Z", .fieldLink RX6 154 "CommitCouncil$Leader" "toldBy" "I", .methodLink RX6 48 yX6_checkOne, .static yX6_checkOne, .initialized RX6, .code yX6_checkOne cX6_checkOne 2 none, .classLink RX6 190 "java/lang/IndexOutOfBoundsException", .initialized "java/lang/IndexOutOfBoundsException", .methodLink RX6 157 yJ6_bitCount_0f7a4, .static yJ6_bitCount_0f7a4, .initialized RJ6, .code yJ6_bitCount_0f7a4 cJ6_bitCount_0f7a4 1 (some .int), .constant RJ6 265 (1431655765), .constant RJ6 266 (858993459), .constant RJ6 267 (252645135)] ++ wsX60 ++ wsX10 ++ wsX00 ++ wsX40 ++ (vx_atS RX6 194 "java/lang/IndexOutOfBoundsException" ["java/lang/RuntimeException", "java/lang/Exception"]).filter goodWord)
def wsX6_outcome : List Cond := .code yX6_outcome cX6_outcome 3 (some .int) :: ([.fieldLink RX6 11 "CommitCouncil" "managers" "[LCommitCouncil$Manager;", .fieldLink RX6 27 "CommitCouncil" "leaders" "[LCommitCouncil$Leader;", .fieldLink RX6 162 "CommitCouncil$Leader" "outcomes" "[I", .methodLink RX6 48 yX6_checkOne, .static yX6_checkOne, .initialized RX6, .code yX6_checkOne cX6_checkOne 2 none, .classLink RX6 190 "java/lang/IndexOutOfBoundsException", .initialized "java/lang/IndexOutOfBoundsException"] ++ wsX60 ++ wsX10 ++ (vx_atS RX6 194 "java/lang/IndexOutOfBoundsException" ["java/lang/RuntimeException", "java/lang/Exception"]).filter goodWord)
def wsX6_seen : List Cond := .code yX6_seen cX6_seen 4 (some .int) :: ([.fieldLink RX6 11 "CommitCouncil" "managers" "[LCommitCouncil$Manager;", .fieldLink RX6 18 "CommitCouncil" "acceptors" "[LCommitCouncil$Acceptor;", .fieldLink RX6 27 "CommitCouncil" "leaders" "[LCommitCouncil$Leader;", .methodLink RX6 48 yX6_checkOne, .static yX6_checkOne, .initialized RX6, .code yX6_checkOne cX6_checkOne 2 none, .classLink RX6 190 "java/lang/IndexOutOfBoundsException", .initialized "java/lang/IndexOutOfBoundsException", .methodLink RX6 165 yX1_sightOf, .instanceMethod yX1_sightOf, .selects RX1 yX1_sightOf yX1_sightOf, .initialized RX1, .code yX1_sightOf cX1_sightOf 4 (some .int), .fieldLink RX1 9 "CommitCouncil$Leader" "acceptorCount" "I", .fieldLink RX1 22 "CommitCouncil$Leader" "sights" "[I", .methodLink RX6 134 yX6_ballotOf, .static yX6_ballotOf, .code yX6_ballotOf cX6_ballotOf 1 (some .int)] ++ wsX60 ++ wsX10 ++ (vx_atS RX6 194 "java/lang/IndexOutOfBoundsException" ["java/lang/RuntimeException", "java/lang/Exception"]).filter goodWord)
def wsX6_chosen : List Cond := .code yX6_chosen cX6_chosen 2 (some .int) :: ([.fieldLink RX6 11 "CommitCouncil" "managers" "[LCommitCouncil$Manager;", .fieldLink RX6 44 "CommitCouncil" "ledger" "LCommitCouncil$Ledger;", .fieldLink RX6 168 "CommitCouncil$Ledger" "words" "[I", .methodLink RX6 48 yX6_checkOne, .static yX6_checkOne, .initialized RX6, .code yX6_checkOne cX6_checkOne 2 none, .classLink RX6 190 "java/lang/IndexOutOfBoundsException", .initialized "java/lang/IndexOutOfBoundsException"] ++ wsX60 ++ wsX20 ++ (vx_atS RX6 194 "java/lang/IndexOutOfBoundsException" ["java/lang/RuntimeException", "java/lang/Exception"]).filter goodWord)
def wsX6_howManyUp : List Cond := .code yX6_howManyUp cX6_howManyUp 5 (some .int) :: ([.fieldLink RX6 122 "CommitCouncil$Member" "up" "Z", .methodLink RX6 118 yX6_memberOf, .instanceMethod yX6_memberOf, .selects RX6 yX6_memberOf yX6_memberOf, .initialized RX6, .code yX6_memberOf cX6_memberOf 3 (some (.object "CommitCouncil$Member")), .classLink RX6 111 "java/lang/IllegalArgumentException", .initialized "java/lang/IllegalArgumentException", .fieldLink RX6 11 "CommitCouncil" "managers" "[LCommitCouncil$Manager;", .fieldLink RX6 18 "CommitCouncil" "acceptors" "[LCommitCouncil$Acceptor;", .fieldLink RX6 27 "CommitCouncil" "leaders" "[LCommitCouncil$Leader;", .methodLink RX6 48 yX6_checkOne, .static yX6_checkOne, .code yX6_checkOne cX6_checkOne 2 none, .classLink RX6 190 "java/lang/IndexOutOfBoundsException", .initialized "java/lang/IndexOutOfBoundsException"] ++ wsX00 ++ wsX10 ++ wsX40 ++ wsX60 ++ (vx_atS RX6 115 "java/lang/IllegalArgumentException" ["java/lang/RuntimeException", "java/lang/Exception"]).filter goodWord ++ (vx_atS RX6 194 "java/lang/IndexOutOfBoundsException" ["java/lang/RuntimeException", "java/lang/Exception"]).filter goodWord)
def wsX6_howManyManagers : List Cond := .code yX6_howManyManagers cX6_howManyManagers 4 (some .int) :: ([.fieldLink RX6 11 "CommitCouncil" "managers" "[LCommitCouncil$Manager;", .fieldLink RX6 55 "CommitCouncil$Manager" "state" "I"] ++ wsX60 ++ wsX40)
def wsX6_count_r1 : List Cond := [Cond.fieldLink RX6 11 "CommitCouncil" "managers" "[LCommitCouncil$Manager;", Cond.fieldLink RX6 18 "CommitCouncil" "acceptors" "[LCommitCouncil$Acceptor;", Cond.fieldLink RX6 37 "CommitCouncil" "mail" "LCommitCouncil$Mail;", Cond.fieldLink RX6 98 "CommitCouncil$Mail" "size" "I", Cond.fieldLink RX6 171 "CommitCouncil$Mail" "sent" "I", Cond.fieldLink RX6 174 "CommitCouncil" "came" "I", Cond.fieldLink RX6 92 "CommitCouncil" "begun" "I", Cond.methodLink RX6 177 yX6_howManyUp, Cond.instanceMethod yX6_howManyUp, Cond.selects RX6 yX6_howManyUp yX6_howManyUp, Cond.initialized RX6, Cond.code yX6_howManyUp cX6_howManyUp 5 (some .int), Cond.fieldLink RX6 122 "CommitCouncil$Member" "up" "Z", Cond.methodLink RX6 118 yX6_memberOf, Cond.instanceMethod yX6_memberOf, Cond.selects RX6 yX6_memberOf yX6_memberOf, Cond.code yX6_memberOf cX6_memberOf 3 (some (.object "CommitCouncil$Member")), Cond.classLink RX6 111 "java/lang/IllegalArgumentException", Cond.initialized "java/lang/IllegalArgumentException", Cond.fieldLink RX6 27 "CommitCouncil" "leaders" "[LCommitCouncil$Leader;", Cond.methodLink RX6 48 yX6_checkOne, Cond.static yX6_checkOne, Cond.code yX6_checkOne cX6_checkOne 2 none, Cond.classLink RX6 190 "java/lang/IndexOutOfBoundsException"]
def wsX6_count_r2 : List Cond := [Cond.initialized "java/lang/IndexOutOfBoundsException", Cond.methodLink RX6 180 yX6_howManyManagers, Cond.instanceMethod yX6_howManyManagers, Cond.selects RX6 yX6_howManyManagers yX6_howManyManagers, Cond.code yX6_howManyManagers cX6_howManyManagers 4 (some .int), Cond.fieldLink RX6 55 "CommitCouncil$Manager" "state" "I"]
def wsX6_count : List Cond := .code yX6_count cX6_count 2 (some .int) :: ((wsX6_count_r1 ++ wsX6_count_r2) ++ wsX60 ++ wsX30 ++ wsX00 ++ wsX10 ++ wsX40 ++ (vx_atS RX6 115 "java/lang/IllegalArgumentException" ["java/lang/RuntimeException", "java/lang/Exception"]).filter goodWord ++ (vx_atS RX6 194 "java/lang/IndexOutOfBoundsException" ["java/lang/RuntimeException", "java/lang/Exception"]).filter goodWord)
def wsX6_isBackedByChosen : List Cond := .code yX6_isBackedByChosen cX6_isBackedByChosen 5 (some .boolean) :: ([.fieldLink RX6 11 "CommitCouncil" "managers" "[LCommitCouncil$Manager;", .fieldLink RX6 44 "CommitCouncil" "ledger" "LCommitCouncil$Ledger;", .fieldLink RX6 168 "CommitCouncil$Ledger" "words" "[I"] ++ wsX60 ++ wsX20)
def wsX6_astray : List Cond := .code yX6_astray cX6_astray 4 (some .int) :: ([.fieldLink RX6 11 "CommitCouncil" "managers" "[LCommitCouncil$Manager;", .fieldLink RX6 55 "CommitCouncil$Manager" "state" "I", .fieldLink RX6 67 "CommitCouncil$Manager" "proposed" "I", .fieldLink RX6 44 "CommitCouncil" "ledger" "LCommitCouncil$Ledger;", .fieldLink RX6 183 "CommitCouncil$Ledger" "unlike" "[Z", .fieldLink RX6 27 "CommitCouncil" "leaders" "[LCommitCouncil$Leader;", .fieldLink RX6 85 "CommitCouncil$Leader" "decision" "I", .methodLink RX6 180 yX6_howManyManagers, .instanceMethod yX6_howManyManagers, .selects RX6 yX6_howManyManagers yX6_howManyManagers, .initialized RX6, .code yX6_howManyManagers cX6_howManyManagers 4 (some .int), .methodLink RX6 187 yX6_isBackedByChosen, .instanceMethod yX6_isBackedByChosen, .selects RX6 yX6_isBackedByChosen yX6_isBackedByChosen, .code yX6_isBackedByChosen cX6_isBackedByChosen 5 (some .boolean), .fieldLink RX6 168 "CommitCouncil$Ledger" "words" "[I"] ++ wsX60 ++ wsX40 ++ wsX20 ++ wsX10)
def wsX7_init_r1 : List Cond := [Cond.methodLink RX7 1 objectInit, Cond.instanceMethod objectInit, Cond.code objectInit ⟨#[0xb1]⟩ 1 none, Cond.arrayClass .int, Cond.fieldLink RX7 9 "CommitCouncilModel" "message" "[I", Cond.fieldLink RX7 13 "CommitCouncilModel" "made" "[I", Cond.fieldLink RX7 16 "CommitCouncilModel" "how" "[I", Cond.classLink RX7 19 "[[Z", Cond.arrayClass .boolean, Cond.fieldLink RX7 21 "CommitCouncilModel" "up" "[[Z", Cond.fieldLink RX7 24 "CommitCouncilModel" "promised" "[I", Cond.fieldLink RX7 27 "CommitCouncilModel" "acceptedBallot" "[I", Cond.fieldLink RX7 30 "CommitCouncilModel" "acceptedWord" "[I", Cond.fieldLink RX7 33 "CommitCouncilModel" "ever" "[I", Cond.fieldLink RX7 36 "CommitCouncilModel" "everWord" "[I", Cond.fieldLink RX7 39 "CommitCouncilModel" "ballot" "[I", Cond.fieldLink RX7 42 "CommitCouncilModel" "phase" "[I", Cond.fieldLink RX7 45 "CommitCouncilModel" "highest" "[I", Cond.fieldLink RX7 48 "CommitCouncilModel" "decision" "[I", Cond.fieldLink RX7 51 "CommitCouncilModel" "told" "[I", Cond.fieldLink RX7 54 "CommitCouncilModel" "toldBallot" "[I", Cond.fieldLink RX7 57 "CommitCouncilModel" "toldWord" "[I", Cond.fieldLink RX7 60 "CommitCouncilModel" "seenBallot" "[I", Cond.fieldLink RX7 63 "CommitCouncilModel" "seenWord" "[I"]
def wsX7_init_r2 : List Cond := [Cond.fieldLink RX7 66 "CommitCouncilModel" "outcome" "[I", Cond.fieldLink RX7 69 "CommitCouncilModel" "managers" "I", Cond.fieldLink RX7 73 "CommitCouncilModel" "acceptors" "I"]
def wsX7_init : List Cond := .code yX7_init cX7_init 5 none :: ((wsX7_init_r1 ++ wsX7_init_r2) ++ wsX70)
def wsX7_thrown : List Cond := .code yX7_thrown cX7_thrown 1 (some .int) :: ([.fieldLink RX7 76 "CommitCouncilModel" "thrown" "I"] ++ wsX70)
def wsX7_lacks : List Cond := .code yX7_lacks cX7_lacks 2 (some .boolean) :: ([.fieldLink RX7 76 "CommitCouncilModel" "thrown" "I"] ++ wsX70)
def wsX7_isManager : List Cond := .code yX7_isManager cX7_isManager 2 (some .boolean) :: ([.fieldLink RX7 69 "CommitCouncilModel" "managers" "I"] ++ wsX70)
def wsX7_isAcceptor : List Cond := .code yX7_isAcceptor cX7_isAcceptor 2 (some .boolean) :: ([.fieldLink RX7 73 "CommitCouncilModel" "acceptors" "I"] ++ wsX70)
def wsX7_isLeader : List Cond := .code yX7_isLeader cX7_isLeader 1 (some .boolean) :: ([])
def wsX7_isMessage : List Cond := .code yX7_isMessage cX7_isMessage 2 (some .boolean) :: ([.fieldLink RX7 79 "CommitCouncilModel" "many" "I"] ++ wsX70)
def wsX7_of : List Cond := .code yX7_of cX7_of 3 (some .int) :: ([.fieldLink RX7 9 "CommitCouncilModel" "message" "[I"] ++ wsX70)
def wsX7_sends : List Cond := .code yX7_sends cX7_sends 9 none :: ([.fieldLink RX7 79 "CommitCouncilModel" "many" "I", .fieldLink RX7 9 "CommitCouncilModel" "message" "[I", .fieldLink RX7 82 "CommitCouncilModel" "sent" "I"] ++ wsX70)
def wsX7_votes : List Cond := .code yX7_votes cX7_votes 5 none :: ([.fieldLink RX7 73 "CommitCouncilModel" "acceptors" "I", .methodLink RX7 85 yX7_sends, .instanceMethod yX7_sends, .selects RX7 yX7_sends yX7_sends, .initialized RX7, .code yX7_sends cX7_sends 9 none, .fieldLink RX7 79 "CommitCouncilModel" "many" "I", .fieldLink RX7 9 "CommitCouncilModel" "message" "[I", .fieldLink RX7 82 "CommitCouncilModel" "sent" "I"] ++ wsX70)
def wsX7_hasRoom : List Cond := .code yX7_hasRoom cX7_hasRoom 2 (some .boolean) :: ([.fieldLink RX7 79 "CommitCouncilModel" "many" "I"] ++ wsX70)
def wsX7_becomes_r1 : List Cond := [Cond.fieldLink RX7 21 "CommitCouncilModel" "up" "[[Z", Cond.fieldLink RX7 16 "CommitCouncilModel" "how" "[I", Cond.fieldLink RX7 73 "CommitCouncilModel" "acceptors" "I", Cond.methodLink RX7 89 yX7_isManager, Cond.instanceMethod yX7_isManager, Cond.selects RX7 yX7_isManager yX7_isManager, Cond.initialized RX7, Cond.code yX7_isManager cX7_isManager 2 (some .boolean), Cond.fieldLink RX7 69 "CommitCouncilModel" "managers" "I", Cond.methodLink RX7 93 yX7_lacks, Cond.instanceMethod yX7_lacks, Cond.selects RX7 yX7_lacks yX7_lacks, Cond.code yX7_lacks cX7_lacks 2 (some .boolean), Cond.fieldLink RX7 76 "CommitCouncilModel" "thrown" "I", Cond.methodLink RX7 97 yX7_hasRoom, Cond.instanceMethod yX7_hasRoom, Cond.selects RX7 yX7_hasRoom yX7_hasRoom, Cond.code yX7_hasRoom cX7_hasRoom 2 (some .boolean), Cond.fieldLink RX7 79 "CommitCouncilModel" "many" "I", Cond.methodLink RX7 100 yX7_votes, Cond.instanceMethod yX7_votes, Cond.selects RX7 yX7_votes yX7_votes, Cond.code yX7_votes cX7_votes 5 none, Cond.methodLink RX7 85 yX7_sends]
def wsX7_becomes_r2 : List Cond := [Cond.instanceMethod yX7_sends, Cond.selects RX7 yX7_sends yX7_sends, Cond.code yX7_sends cX7_sends 9 none, Cond.fieldLink RX7 9 "CommitCouncilModel" "message" "[I", Cond.fieldLink RX7 82 "CommitCouncilModel" "sent" "I"]
def wsX7_becomes : List Cond := .code yX7_becomes cX7_becomes 3 (some .boolean) :: ((wsX7_becomes_r1 ++ wsX7_becomes_r2) ++ wsX70)
def wsX7_prepare_r1 : List Cond := [Cond.methodLink RX7 104 yX7_becomes, Cond.instanceMethod yX7_becomes, Cond.selects RX7 yX7_becomes yX7_becomes, Cond.initialized RX7, Cond.code yX7_becomes cX7_becomes 3 (some .boolean), Cond.fieldLink RX7 21 "CommitCouncilModel" "up" "[[Z", Cond.fieldLink RX7 16 "CommitCouncilModel" "how" "[I", Cond.fieldLink RX7 73 "CommitCouncilModel" "acceptors" "I", Cond.methodLink RX7 89 yX7_isManager, Cond.instanceMethod yX7_isManager, Cond.selects RX7 yX7_isManager yX7_isManager, Cond.code yX7_isManager cX7_isManager 2 (some .boolean), Cond.fieldLink RX7 69 "CommitCouncilModel" "managers" "I", Cond.methodLink RX7 93 yX7_lacks, Cond.instanceMethod yX7_lacks, Cond.selects RX7 yX7_lacks yX7_lacks, Cond.code yX7_lacks cX7_lacks 2 (some .boolean), Cond.fieldLink RX7 76 "CommitCouncilModel" "thrown" "I", Cond.methodLink RX7 97 yX7_hasRoom, Cond.instanceMethod yX7_hasRoom, Cond.selects RX7 yX7_hasRoom yX7_hasRoom, Cond.code yX7_hasRoom cX7_hasRoom 2 (some .boolean), Cond.fieldLink RX7 79 "CommitCouncilModel" "many" "I", Cond.methodLink RX7 100 yX7_votes]
def wsX7_prepare_r2 : List Cond := [Cond.instanceMethod yX7_votes, Cond.selects RX7 yX7_votes yX7_votes, Cond.code yX7_votes cX7_votes 5 none, Cond.methodLink RX7 85 yX7_sends, Cond.instanceMethod yX7_sends, Cond.selects RX7 yX7_sends yX7_sends, Cond.code yX7_sends cX7_sends 9 none, Cond.fieldLink RX7 9 "CommitCouncilModel" "message" "[I", Cond.fieldLink RX7 82 "CommitCouncilModel" "sent" "I"]
def wsX7_prepare : List Cond := .code yX7_prepare cX7_prepare 2 (some .boolean) :: ((wsX7_prepare_r1 ++ wsX7_prepare_r2) ++ wsX70)
def wsX7_refuse_r1 : List Cond := [Cond.methodLink RX7 104 yX7_becomes, Cond.instanceMethod yX7_becomes, Cond.selects RX7 yX7_becomes yX7_becomes, Cond.initialized RX7, Cond.code yX7_becomes cX7_becomes 3 (some .boolean), Cond.fieldLink RX7 21 "CommitCouncilModel" "up" "[[Z", Cond.fieldLink RX7 16 "CommitCouncilModel" "how" "[I", Cond.fieldLink RX7 73 "CommitCouncilModel" "acceptors" "I", Cond.methodLink RX7 89 yX7_isManager, Cond.instanceMethod yX7_isManager, Cond.selects RX7 yX7_isManager yX7_isManager, Cond.code yX7_isManager cX7_isManager 2 (some .boolean), Cond.fieldLink RX7 69 "CommitCouncilModel" "managers" "I", Cond.methodLink RX7 93 yX7_lacks, Cond.instanceMethod yX7_lacks, Cond.selects RX7 yX7_lacks yX7_lacks, Cond.code yX7_lacks cX7_lacks 2 (some .boolean), Cond.fieldLink RX7 76 "CommitCouncilModel" "thrown" "I", Cond.methodLink RX7 97 yX7_hasRoom, Cond.instanceMethod yX7_hasRoom, Cond.selects RX7 yX7_hasRoom yX7_hasRoom, Cond.code yX7_hasRoom cX7_hasRoom 2 (some .boolean), Cond.fieldLink RX7 79 "CommitCouncilModel" "many" "I", Cond.methodLink RX7 100 yX7_votes]
def wsX7_refuse_r2 : List Cond := [Cond.instanceMethod yX7_votes, Cond.selects RX7 yX7_votes yX7_votes, Cond.code yX7_votes cX7_votes 5 none, Cond.methodLink RX7 85 yX7_sends, Cond.instanceMethod yX7_sends, Cond.selects RX7 yX7_sends yX7_sends, Cond.code yX7_sends cX7_sends 9 none, Cond.fieldLink RX7 9 "CommitCouncilModel" "message" "[I", Cond.fieldLink RX7 82 "CommitCouncilModel" "sent" "I"]
def wsX7_refuse : List Cond := .code yX7_refuse cX7_refuse 2 (some .boolean) :: ((wsX7_refuse_r1 ++ wsX7_refuse_r2) ++ wsX70)
def wsX7_resend_r1 : List Cond := [Cond.fieldLink RX7 21 "CommitCouncilModel" "up" "[[Z", Cond.fieldLink RX7 16 "CommitCouncilModel" "how" "[I", Cond.fieldLink RX7 73 "CommitCouncilModel" "acceptors" "I", Cond.methodLink RX7 89 yX7_isManager, Cond.instanceMethod yX7_isManager, Cond.selects RX7 yX7_isManager yX7_isManager, Cond.initialized RX7, Cond.code yX7_isManager cX7_isManager 2 (some .boolean), Cond.fieldLink RX7 69 "CommitCouncilModel" "managers" "I", Cond.methodLink RX7 93 yX7_lacks, Cond.instanceMethod yX7_lacks, Cond.selects RX7 yX7_lacks yX7_lacks, Cond.code yX7_lacks cX7_lacks 2 (some .boolean), Cond.fieldLink RX7 76 "CommitCouncilModel" "thrown" "I", Cond.methodLink RX7 97 yX7_hasRoom, Cond.instanceMethod yX7_hasRoom, Cond.selects RX7 yX7_hasRoom yX7_hasRoom, Cond.code yX7_hasRoom cX7_hasRoom 2 (some .boolean), Cond.fieldLink RX7 79 "CommitCouncilModel" "many" "I", Cond.methodLink RX7 100 yX7_votes, Cond.instanceMethod yX7_votes, Cond.selects RX7 yX7_votes yX7_votes, Cond.code yX7_votes cX7_votes 5 none, Cond.methodLink RX7 85 yX7_sends]
def wsX7_resend_r2 : List Cond := [Cond.instanceMethod yX7_sends, Cond.selects RX7 yX7_sends yX7_sends, Cond.code yX7_sends cX7_sends 9 none, Cond.fieldLink RX7 9 "CommitCouncilModel" "message" "[I", Cond.fieldLink RX7 82 "CommitCouncilModel" "sent" "I"]
def wsX7_resend : List Cond := .code yX7_resend cX7_resend 2 (some .boolean) :: ((wsX7_resend_r1 ++ wsX7_resend_r2) ++ wsX70)
def wsX7_question : List Cond := .code yX7_question cX7_question 3 (some .boolean) :: ([.fieldLink RX7 21 "CommitCouncilModel" "up" "[[Z", .methodLink RX7 89 yX7_isManager, .instanceMethod yX7_isManager, .selects RX7 yX7_isManager yX7_isManager, .initialized RX7, .code yX7_isManager cX7_isManager 2 (some .boolean), .fieldLink RX7 69 "CommitCouncilModel" "managers" "I", .methodLink RX7 93 yX7_lacks, .instanceMethod yX7_lacks, .selects RX7 yX7_lacks yX7_lacks, .code yX7_lacks cX7_lacks 2 (some .boolean), .fieldLink RX7 76 "CommitCouncilModel" "thrown" "I", .methodLink RX7 97 yX7_hasRoom, .instanceMethod yX7_hasRoom, .selects RX7 yX7_hasRoom yX7_hasRoom, .code yX7_hasRoom cX7_hasRoom 2 (some .boolean), .fieldLink RX7 79 "CommitCouncilModel" "many" "I", .methodLink RX7 85 yX7_sends, .instanceMethod yX7_sends, .selects RX7 yX7_sends yX7_sends, .code yX7_sends cX7_sends 9 none, .fieldLink RX7 9 "CommitCouncilModel" "message" "[I", .fieldLink RX7 82 "CommitCouncilModel" "sent" "I"] ++ wsX70)
def wsX7_begin_r1 : List Cond := [Cond.fieldLink RX7 21 "CommitCouncilModel" "up" "[[Z", Cond.fieldLink RX7 73 "CommitCouncilModel" "acceptors" "I", Cond.fieldLink RX7 48 "CommitCouncilModel" "decision" "[I", Cond.fieldLink RX7 69 "CommitCouncilModel" "managers" "I", Cond.fieldLink RX7 45 "CommitCouncilModel" "highest" "[I", Cond.fieldLink RX7 39 "CommitCouncilModel" "ballot" "[I", Cond.fieldLink RX7 42 "CommitCouncilModel" "phase" "[I", Cond.fieldLink RX7 51 "CommitCouncilModel" "told" "[I", Cond.fieldLink RX7 111 "CommitCouncilModel" "begun" "I", Cond.methodLink RX7 108 yX7_isLeader, Cond.static yX7_isLeader, Cond.initialized RX7, Cond.code yX7_isLeader cX7_isLeader 1 (some .boolean), Cond.methodLink RX7 93 yX7_lacks, Cond.instanceMethod yX7_lacks, Cond.selects RX7 yX7_lacks yX7_lacks, Cond.code yX7_lacks cX7_lacks 2 (some .boolean), Cond.fieldLink RX7 76 "CommitCouncilModel" "thrown" "I", Cond.methodLink RX7 97 yX7_hasRoom, Cond.instanceMethod yX7_hasRoom, Cond.selects RX7 yX7_hasRoom yX7_hasRoom, Cond.code yX7_hasRoom cX7_hasRoom 2 (some .boolean), Cond.fieldLink RX7 79 "CommitCouncilModel" "many" "I", Cond.methodLink RX7 85 yX7_sends]
def wsX7_begin_r2 : List Cond := [Cond.instanceMethod yX7_sends, Cond.selects RX7 yX7_sends yX7_sends, Cond.code yX7_sends cX7_sends 9 none, Cond.fieldLink RX7 9 "CommitCouncilModel" "message" "[I", Cond.fieldLink RX7 82 "CommitCouncilModel" "sent" "I"]
def wsX7_begin : List Cond := .code yX7_begin cX7_begin 4 (some .int) :: ((wsX7_begin_r1 ++ wsX7_begin_r2) ++ wsX70)
def wsX7_remove : List Cond := .code yX7_remove cX7_remove 3 none :: ([.fieldLink RX7 79 "CommitCouncilModel" "many" "I", .fieldLink RX7 9 "CommitCouncilModel" "message" "[I"] ++ wsX70)
def wsX7_bits : List Cond := .code yX7_bits cX7_bits 3 (some .int) :: ([])
def wsX7_isMost : List Cond := .code yX7_isMost cX7_isMost 2 (some .boolean) :: ([.fieldLink RX7 73 "CommitCouncilModel" "acceptors" "I"] ++ wsX70)
def wsX7_seenAt : List Cond := .code yX7_seenAt cX7_seenAt 4 (some .int) :: ([])
def wsX7_isNew : List Cond := .code yX7_isNew cX7_isNew 5 (some .boolean) :: ([.fieldLink RX7 60 "CommitCouncilModel" "seenBallot" "[I", .methodLink RX7 114 yX7_of, .instanceMethod yX7_of, .selects RX7 yX7_of yX7_of, .initialized RX7, .code yX7_of cX7_of 3 (some .int), .fieldLink RX7 9 "CommitCouncilModel" "message" "[I", .methodLink RX7 136 yX7_seenAt, .instanceMethod yX7_seenAt, .selects RX7 yX7_seenAt yX7_seenAt, .code yX7_seenAt cX7_seenAt 4 (some .int)] ++ wsX70)
def wsX7_ballotSeen : List Cond := .code yX7_ballotSeen cX7_ballotSeen 5 (some .int) :: ([.fieldLink RX7 60 "CommitCouncilModel" "seenBallot" "[I", .methodLink RX7 132 yX7_isNew, .instanceMethod yX7_isNew, .selects RX7 yX7_isNew yX7_isNew, .initialized RX7, .code yX7_isNew cX7_isNew 5 (some .boolean), .methodLink RX7 114 yX7_of, .instanceMethod yX7_of, .selects RX7 yX7_of yX7_of, .code yX7_of cX7_of 3 (some .int), .fieldLink RX7 9 "CommitCouncilModel" "message" "[I", .methodLink RX7 136 yX7_seenAt, .instanceMethod yX7_seenAt, .selects RX7 yX7_seenAt yX7_seenAt, .code yX7_seenAt cX7_seenAt 4 (some .int)] ++ wsX70)
def wsX7_settled_r1 : List Cond := [Cond.fieldLink RX7 66 "CommitCouncilModel" "outcome" "[I", Cond.fieldLink RX7 73 "CommitCouncilModel" "acceptors" "I", Cond.fieldLink RX7 63 "CommitCouncilModel" "seenWord" "[I", Cond.methodLink RX7 128 yX7_ballotSeen, Cond.instanceMethod yX7_ballotSeen, Cond.selects RX7 yX7_ballotSeen yX7_ballotSeen, Cond.initialized RX7, Cond.code yX7_ballotSeen cX7_ballotSeen 5 (some .int), Cond.fieldLink RX7 60 "CommitCouncilModel" "seenBallot" "[I", Cond.methodLink RX7 132 yX7_isNew, Cond.instanceMethod yX7_isNew, Cond.selects RX7 yX7_isNew yX7_isNew, Cond.code yX7_isNew cX7_isNew 5 (some .boolean), Cond.methodLink RX7 114 yX7_of, Cond.instanceMethod yX7_of, Cond.selects RX7 yX7_of yX7_of, Cond.code yX7_of cX7_of 3 (some .int), Cond.fieldLink RX7 9 "CommitCouncilModel" "message" "[I", Cond.methodLink RX7 136 yX7_seenAt, Cond.instanceMethod yX7_seenAt, Cond.selects RX7 yX7_seenAt yX7_seenAt, Cond.code yX7_seenAt cX7_seenAt 4 (some .int), Cond.methodLink RX7 122 yX7_isMost, Cond.instanceMethod yX7_isMost]
def wsX7_settled_r2 : List Cond := [Cond.selects RX7 yX7_isMost yX7_isMost, Cond.code yX7_isMost cX7_isMost 2 (some .boolean)]
def wsX7_settled : List Cond := .code yX7_settled cX7_settled 8 (some .int) :: ((wsX7_settled_r1 ++ wsX7_settled_r2) ++ wsX70)
def wsX7_decided_r1 : List Cond := [Cond.fieldLink RX7 69 "CommitCouncilModel" "managers" "I", Cond.methodLink RX7 140 yX7_settled, Cond.instanceMethod yX7_settled, Cond.selects RX7 yX7_settled yX7_settled, Cond.initialized RX7, Cond.code yX7_settled cX7_settled 8 (some .int), Cond.fieldLink RX7 66 "CommitCouncilModel" "outcome" "[I", Cond.fieldLink RX7 73 "CommitCouncilModel" "acceptors" "I", Cond.fieldLink RX7 63 "CommitCouncilModel" "seenWord" "[I", Cond.methodLink RX7 128 yX7_ballotSeen, Cond.instanceMethod yX7_ballotSeen, Cond.selects RX7 yX7_ballotSeen yX7_ballotSeen, Cond.code yX7_ballotSeen cX7_ballotSeen 5 (some .int), Cond.fieldLink RX7 60 "CommitCouncilModel" "seenBallot" "[I", Cond.methodLink RX7 132 yX7_isNew, Cond.instanceMethod yX7_isNew, Cond.selects RX7 yX7_isNew yX7_isNew, Cond.code yX7_isNew cX7_isNew 5 (some .boolean), Cond.methodLink RX7 114 yX7_of, Cond.instanceMethod yX7_of, Cond.selects RX7 yX7_of yX7_of, Cond.code yX7_of cX7_of 3 (some .int), Cond.fieldLink RX7 9 "CommitCouncilModel" "message" "[I", Cond.methodLink RX7 136 yX7_seenAt]
def wsX7_decided_r2 : List Cond := [Cond.instanceMethod yX7_seenAt, Cond.selects RX7 yX7_seenAt yX7_seenAt, Cond.code yX7_seenAt cX7_seenAt 4 (some .int), Cond.methodLink RX7 122 yX7_isMost, Cond.instanceMethod yX7_isMost, Cond.selects RX7 yX7_isMost yX7_isMost, Cond.code yX7_isMost cX7_isMost 2 (some .boolean)]
def wsX7_decided : List Cond := .code yX7_decided cX7_decided 6 (some .int) :: ((wsX7_decided_r1 ++ wsX7_decided_r2) ++ wsX70)
def wsX7_decides_r1 : List Cond := [Cond.fieldLink RX7 48 "CommitCouncilModel" "decision" "[I", Cond.methodLink RX7 114 yX7_of, Cond.instanceMethod yX7_of, Cond.selects RX7 yX7_of yX7_of, Cond.initialized RX7, Cond.code yX7_of cX7_of 3 (some .int), Cond.fieldLink RX7 9 "CommitCouncilModel" "message" "[I", Cond.methodLink RX7 143 yX7_decided, Cond.instanceMethod yX7_decided, Cond.selects RX7 yX7_decided yX7_decided, Cond.code yX7_decided cX7_decided 6 (some .int), Cond.fieldLink RX7 69 "CommitCouncilModel" "managers" "I", Cond.methodLink RX7 140 yX7_settled, Cond.instanceMethod yX7_settled, Cond.selects RX7 yX7_settled yX7_settled, Cond.code yX7_settled cX7_settled 8 (some .int), Cond.fieldLink RX7 66 "CommitCouncilModel" "outcome" "[I", Cond.fieldLink RX7 73 "CommitCouncilModel" "acceptors" "I", Cond.fieldLink RX7 63 "CommitCouncilModel" "seenWord" "[I", Cond.methodLink RX7 128 yX7_ballotSeen, Cond.instanceMethod yX7_ballotSeen, Cond.selects RX7 yX7_ballotSeen yX7_ballotSeen, Cond.code yX7_ballotSeen cX7_ballotSeen 5 (some .int), Cond.fieldLink RX7 60 "CommitCouncilModel" "seenBallot" "[I"]
def wsX7_decides_r2 : List Cond := [Cond.methodLink RX7 132 yX7_isNew, Cond.instanceMethod yX7_isNew, Cond.selects RX7 yX7_isNew yX7_isNew, Cond.code yX7_isNew cX7_isNew 5 (some .boolean), Cond.methodLink RX7 136 yX7_seenAt, Cond.instanceMethod yX7_seenAt, Cond.selects RX7 yX7_seenAt yX7_seenAt, Cond.code yX7_seenAt cX7_seenAt 4 (some .int), Cond.methodLink RX7 122 yX7_isMost, Cond.instanceMethod yX7_isMost, Cond.selects RX7 yX7_isMost yX7_isMost, Cond.code yX7_isMost cX7_isMost 2 (some .boolean)]
def wsX7_decides : List Cond := .code yX7_decides cX7_decides 3 (some .boolean) :: ((wsX7_decides_r1 ++ wsX7_decides_r2) ++ wsX70)
def wsX7_leadsTo_r1 : List Cond := [Cond.fieldLink RX7 21 "CommitCouncilModel" "up" "[[Z", Cond.fieldLink RX7 24 "CommitCouncilModel" "promised" "[I", Cond.fieldLink RX7 42 "CommitCouncilModel" "phase" "[I", Cond.fieldLink RX7 39 "CommitCouncilModel" "ballot" "[I", Cond.fieldLink RX7 51 "CommitCouncilModel" "told" "[I", Cond.fieldLink RX7 69 "CommitCouncilModel" "managers" "I", Cond.fieldLink RX7 73 "CommitCouncilModel" "acceptors" "I", Cond.fieldLink RX7 48 "CommitCouncilModel" "decision" "[I", Cond.methodLink RX7 114 yX7_of, Cond.instanceMethod yX7_of, Cond.selects RX7 yX7_of yX7_of, Cond.initialized RX7, Cond.code yX7_of cX7_of 3 (some .int), Cond.fieldLink RX7 9 "CommitCouncilModel" "message" "[I", Cond.methodLink RX7 118 yX7_bits, Cond.static yX7_bits, Cond.code yX7_bits cX7_bits 3 (some .int), Cond.methodLink RX7 122 yX7_isMost, Cond.instanceMethod yX7_isMost, Cond.selects RX7 yX7_isMost yX7_isMost, Cond.code yX7_isMost cX7_isMost 2 (some .boolean), Cond.methodLink RX7 125 yX7_decides, Cond.instanceMethod yX7_decides, Cond.selects RX7 yX7_decides yX7_decides]
def wsX7_leadsTo_r2 : List Cond := [Cond.code yX7_decides cX7_decides 3 (some .boolean), Cond.methodLink RX7 143 yX7_decided, Cond.instanceMethod yX7_decided, Cond.selects RX7 yX7_decided yX7_decided, Cond.code yX7_decided cX7_decided 6 (some .int), Cond.methodLink RX7 140 yX7_settled, Cond.instanceMethod yX7_settled, Cond.selects RX7 yX7_settled yX7_settled, Cond.code yX7_settled cX7_settled 8 (some .int), Cond.fieldLink RX7 66 "CommitCouncilModel" "outcome" "[I", Cond.fieldLink RX7 63 "CommitCouncilModel" "seenWord" "[I", Cond.methodLink RX7 128 yX7_ballotSeen, Cond.instanceMethod yX7_ballotSeen, Cond.selects RX7 yX7_ballotSeen yX7_ballotSeen, Cond.code yX7_ballotSeen cX7_ballotSeen 5 (some .int), Cond.fieldLink RX7 60 "CommitCouncilModel" "seenBallot" "[I", Cond.methodLink RX7 132 yX7_isNew, Cond.instanceMethod yX7_isNew, Cond.selects RX7 yX7_isNew yX7_isNew, Cond.code yX7_isNew cX7_isNew 5 (some .boolean), Cond.methodLink RX7 136 yX7_seenAt, Cond.instanceMethod yX7_seenAt, Cond.selects RX7 yX7_seenAt yX7_seenAt, Cond.code yX7_seenAt cX7_seenAt 4 (some .int)]
def wsX7_leadsTo : List Cond := .code yX7_leadsTo cX7_leadsTo 4 (some .int) :: ((wsX7_leadsTo_r1 ++ wsX7_leadsTo_r2) ++ wsX70)
def wsX7_voteComes : List Cond := .code yX7_voteComes cX7_voteComes 6 none :: ([.fieldLink RX7 13 "CommitCouncilModel" "made" "[I", .fieldLink RX7 24 "CommitCouncilModel" "promised" "[I", .fieldLink RX7 27 "CommitCouncilModel" "acceptedBallot" "[I", .fieldLink RX7 30 "CommitCouncilModel" "acceptedWord" "[I", .fieldLink RX7 33 "CommitCouncilModel" "ever" "[I", .fieldLink RX7 36 "CommitCouncilModel" "everWord" "[I", .methodLink RX7 85 yX7_sends, .instanceMethod yX7_sends, .selects RX7 yX7_sends yX7_sends, .initialized RX7, .code yX7_sends cX7_sends 9 none, .fieldLink RX7 79 "CommitCouncilModel" "many" "I", .fieldLink RX7 9 "CommitCouncilModel" "message" "[I", .fieldLink RX7 82 "CommitCouncilModel" "sent" "I"] ++ wsX70)
def wsX7_askComes : List Cond := .code yX7_askComes cX7_askComes 5 none :: ([.fieldLink RX7 13 "CommitCouncilModel" "made" "[I", .fieldLink RX7 24 "CommitCouncilModel" "promised" "[I", .fieldLink RX7 79 "CommitCouncilModel" "many" "I", .fieldLink RX7 69 "CommitCouncilModel" "managers" "I", .fieldLink RX7 9 "CommitCouncilModel" "message" "[I", .fieldLink RX7 27 "CommitCouncilModel" "acceptedBallot" "[I", .fieldLink RX7 30 "CommitCouncilModel" "acceptedWord" "[I", .methodLink RX7 85 yX7_sends, .instanceMethod yX7_sends, .selects RX7 yX7_sends yX7_sends, .initialized RX7, .code yX7_sends cX7_sends 9 none, .fieldLink RX7 82 "CommitCouncilModel" "sent" "I"] ++ wsX70)
def wsX7_toldComes_r1 : List Cond := [Cond.fieldLink RX7 13 "CommitCouncilModel" "made" "[I", Cond.fieldLink RX7 45 "CommitCouncilModel" "highest" "[I", Cond.methodLink RX7 175 Lib.Math.max.name, Cond.static Lib.Math.max.name, Cond.initialized "java/lang/Math", Cond.code Lib.Math.max.name Lib.Math.max.code 2 (some .int), Cond.fieldLink RX7 42 "CommitCouncilModel" "phase" "[I", Cond.fieldLink RX7 39 "CommitCouncilModel" "ballot" "[I", Cond.fieldLink RX7 51 "CommitCouncilModel" "told" "[I", Cond.fieldLink RX7 69 "CommitCouncilModel" "managers" "I", Cond.fieldLink RX7 54 "CommitCouncilModel" "toldBallot" "[I", Cond.fieldLink RX7 57 "CommitCouncilModel" "toldWord" "[I", Cond.fieldLink RX7 73 "CommitCouncilModel" "acceptors" "I", Cond.methodLink RX7 118 yX7_bits, Cond.static yX7_bits, Cond.initialized RX7, Cond.code yX7_bits cX7_bits 3 (some .int), Cond.methodLink RX7 122 yX7_isMost, Cond.instanceMethod yX7_isMost, Cond.selects RX7 yX7_isMost yX7_isMost, Cond.code yX7_isMost cX7_isMost 2 (some .boolean), Cond.methodLink RX7 100 yX7_votes, Cond.instanceMethod yX7_votes, Cond.selects RX7 yX7_votes yX7_votes]
def wsX7_toldComes_r2 : List Cond := [Cond.code yX7_votes cX7_votes 5 none, Cond.methodLink RX7 85 yX7_sends, Cond.instanceMethod yX7_sends, Cond.selects RX7 yX7_sends yX7_sends, Cond.code yX7_sends cX7_sends 9 none, Cond.fieldLink RX7 79 "CommitCouncilModel" "many" "I", Cond.fieldLink RX7 9 "CommitCouncilModel" "message" "[I", Cond.fieldLink RX7 82 "CommitCouncilModel" "sent" "I"]
def wsX7_toldComes : List Cond := .code yX7_toldComes cX7_toldComes 8 none :: ((wsX7_toldComes_r1 ++ wsX7_toldComes_r2) ++ wsX70)
def wsX7_votedComes_r1 : List Cond := [Cond.fieldLink RX7 13 "CommitCouncilModel" "made" "[I", Cond.fieldLink RX7 45 "CommitCouncilModel" "highest" "[I", Cond.methodLink RX7 175 Lib.Math.max.name, Cond.static Lib.Math.max.name, Cond.initialized "java/lang/Math", Cond.code Lib.Math.max.name Lib.Math.max.code 2 (some .int), Cond.fieldLink RX7 60 "CommitCouncilModel" "seenBallot" "[I", Cond.fieldLink RX7 63 "CommitCouncilModel" "seenWord" "[I", Cond.fieldLink RX7 69 "CommitCouncilModel" "managers" "I", Cond.fieldLink RX7 66 "CommitCouncilModel" "outcome" "[I", Cond.fieldLink RX7 48 "CommitCouncilModel" "decision" "[I", Cond.methodLink RX7 136 yX7_seenAt, Cond.instanceMethod yX7_seenAt, Cond.selects RX7 yX7_seenAt yX7_seenAt, Cond.initialized RX7, Cond.code yX7_seenAt cX7_seenAt 4 (some .int), Cond.methodLink RX7 140 yX7_settled, Cond.instanceMethod yX7_settled, Cond.selects RX7 yX7_settled yX7_settled, Cond.code yX7_settled cX7_settled 8 (some .int), Cond.fieldLink RX7 73 "CommitCouncilModel" "acceptors" "I", Cond.methodLink RX7 128 yX7_ballotSeen, Cond.instanceMethod yX7_ballotSeen, Cond.selects RX7 yX7_ballotSeen yX7_ballotSeen]
def wsX7_votedComes_r2 : List Cond := [Cond.code yX7_ballotSeen cX7_ballotSeen 5 (some .int), Cond.methodLink RX7 132 yX7_isNew, Cond.instanceMethod yX7_isNew, Cond.selects RX7 yX7_isNew yX7_isNew, Cond.code yX7_isNew cX7_isNew 5 (some .boolean), Cond.methodLink RX7 114 yX7_of, Cond.instanceMethod yX7_of, Cond.selects RX7 yX7_of yX7_of, Cond.code yX7_of cX7_of 3 (some .int), Cond.fieldLink RX7 9 "CommitCouncilModel" "message" "[I", Cond.methodLink RX7 122 yX7_isMost, Cond.instanceMethod yX7_isMost, Cond.selects RX7 yX7_isMost yX7_isMost, Cond.code yX7_isMost cX7_isMost 2 (some .boolean), Cond.methodLink RX7 143 yX7_decided, Cond.instanceMethod yX7_decided, Cond.selects RX7 yX7_decided yX7_decided, Cond.code yX7_decided cX7_decided 6 (some .int), Cond.methodLink RX7 85 yX7_sends, Cond.instanceMethod yX7_sends, Cond.selects RX7 yX7_sends yX7_sends, Cond.code yX7_sends cX7_sends 9 none, Cond.fieldLink RX7 79 "CommitCouncilModel" "many" "I", Cond.fieldLink RX7 82 "CommitCouncilModel" "sent" "I"]
def wsX7_votedComes : List Cond := .code yX7_votedComes cX7_votedComes 6 none :: ((wsX7_votedComes_r1 ++ wsX7_votedComes_r2) ++ wsX70)
def wsX7_comes_r1 : List Cond := [Cond.fieldLink RX7 79 "CommitCouncilModel" "many" "I", Cond.fieldLink RX7 21 "CommitCouncilModel" "up" "[[Z", Cond.fieldLink RX7 13 "CommitCouncilModel" "made" "[I", Cond.fieldLink RX7 159 "CommitCouncilModel" "came" "I", Cond.fieldLink RX7 48 "CommitCouncilModel" "decision" "[I", Cond.fieldLink RX7 16 "CommitCouncilModel" "how" "[I", Cond.methodLink RX7 114 yX7_of, Cond.instanceMethod yX7_of, Cond.selects RX7 yX7_of yX7_of, Cond.initialized RX7, Cond.code yX7_of cX7_of 3 (some .int), Cond.fieldLink RX7 9 "CommitCouncilModel" "message" "[I", Cond.methodLink RX7 152 yX7_leadsTo, Cond.instanceMethod yX7_leadsTo, Cond.selects RX7 yX7_leadsTo yX7_leadsTo, Cond.code yX7_leadsTo cX7_leadsTo 4 (some .int), Cond.fieldLink RX7 24 "CommitCouncilModel" "promised" "[I", Cond.fieldLink RX7 42 "CommitCouncilModel" "phase" "[I", Cond.fieldLink RX7 39 "CommitCouncilModel" "ballot" "[I", Cond.fieldLink RX7 51 "CommitCouncilModel" "told" "[I", Cond.fieldLink RX7 69 "CommitCouncilModel" "managers" "I", Cond.fieldLink RX7 73 "CommitCouncilModel" "acceptors" "I", Cond.methodLink RX7 118 yX7_bits, Cond.static yX7_bits]
def wsX7_comes_r2 : List Cond := [Cond.code yX7_bits cX7_bits 3 (some .int), Cond.methodLink RX7 122 yX7_isMost, Cond.instanceMethod yX7_isMost, Cond.selects RX7 yX7_isMost yX7_isMost, Cond.code yX7_isMost cX7_isMost 2 (some .boolean), Cond.methodLink RX7 125 yX7_decides, Cond.instanceMethod yX7_decides, Cond.selects RX7 yX7_decides yX7_decides, Cond.code yX7_decides cX7_decides 3 (some .boolean), Cond.methodLink RX7 143 yX7_decided, Cond.instanceMethod yX7_decided, Cond.selects RX7 yX7_decided yX7_decided, Cond.code yX7_decided cX7_decided 6 (some .int), Cond.methodLink RX7 140 yX7_settled, Cond.instanceMethod yX7_settled, Cond.selects RX7 yX7_settled yX7_settled, Cond.code yX7_settled cX7_settled 8 (some .int), Cond.fieldLink RX7 66 "CommitCouncilModel" "outcome" "[I", Cond.fieldLink RX7 63 "CommitCouncilModel" "seenWord" "[I", Cond.methodLink RX7 128 yX7_ballotSeen, Cond.instanceMethod yX7_ballotSeen, Cond.selects RX7 yX7_ballotSeen yX7_ballotSeen, Cond.code yX7_ballotSeen cX7_ballotSeen 5 (some .int), Cond.fieldLink RX7 60 "CommitCouncilModel" "seenBallot" "[I"]
def wsX7_comes_r3 : List Cond := [Cond.methodLink RX7 132 yX7_isNew, Cond.instanceMethod yX7_isNew, Cond.selects RX7 yX7_isNew yX7_isNew, Cond.code yX7_isNew cX7_isNew 5 (some .boolean), Cond.methodLink RX7 136 yX7_seenAt, Cond.instanceMethod yX7_seenAt, Cond.selects RX7 yX7_seenAt yX7_seenAt, Cond.code yX7_seenAt cX7_seenAt 4 (some .int), Cond.methodLink RX7 155 yX7_remove, Cond.instanceMethod yX7_remove, Cond.selects RX7 yX7_remove yX7_remove, Cond.code yX7_remove cX7_remove 3 none, Cond.methodLink RX7 162 yX7_voteComes, Cond.instanceMethod yX7_voteComes, Cond.selects RX7 yX7_voteComes yX7_voteComes, Cond.code yX7_voteComes cX7_voteComes 6 none, Cond.fieldLink RX7 27 "CommitCouncilModel" "acceptedBallot" "[I", Cond.fieldLink RX7 30 "CommitCouncilModel" "acceptedWord" "[I", Cond.fieldLink RX7 33 "CommitCouncilModel" "ever" "[I", Cond.fieldLink RX7 36 "CommitCouncilModel" "everWord" "[I", Cond.methodLink RX7 85 yX7_sends, Cond.instanceMethod yX7_sends, Cond.selects RX7 yX7_sends yX7_sends, Cond.code yX7_sends cX7_sends 9 none]
def wsX7_comes_r4 : List Cond := [Cond.fieldLink RX7 82 "CommitCouncilModel" "sent" "I", Cond.methodLink RX7 165 yX7_askComes, Cond.instanceMethod yX7_askComes, Cond.selects RX7 yX7_askComes yX7_askComes, Cond.code yX7_askComes cX7_askComes 5 none, Cond.methodLink RX7 168 yX7_toldComes, Cond.instanceMethod yX7_toldComes, Cond.selects RX7 yX7_toldComes yX7_toldComes, Cond.code yX7_toldComes cX7_toldComes 8 none, Cond.fieldLink RX7 45 "CommitCouncilModel" "highest" "[I", Cond.methodLink RX7 175 Lib.Math.max.name, Cond.static Lib.Math.max.name, Cond.initialized "java/lang/Math", Cond.code Lib.Math.max.name Lib.Math.max.code 2 (some .int), Cond.fieldLink RX7 54 "CommitCouncilModel" "toldBallot" "[I", Cond.fieldLink RX7 57 "CommitCouncilModel" "toldWord" "[I", Cond.methodLink RX7 100 yX7_votes, Cond.instanceMethod yX7_votes, Cond.selects RX7 yX7_votes yX7_votes, Cond.code yX7_votes cX7_votes 5 none, Cond.methodLink RX7 171 yX7_votedComes, Cond.instanceMethod yX7_votedComes, Cond.selects RX7 yX7_votedComes yX7_votedComes, Cond.code yX7_votedComes cX7_votedComes 6 none]
def wsX7_comes : List Cond := .code yX7_comes cX7_comes 6 (some .int) :: ((wsX7_comes_r1 ++ (wsX7_comes_r2 ++ (wsX7_comes_r3 ++ wsX7_comes_r4))) ++ wsX70)
def wsX7_deliver_r1 : List Cond := [Cond.methodLink RX7 146 yX7_isMessage, Cond.instanceMethod yX7_isMessage, Cond.selects RX7 yX7_isMessage yX7_isMessage, Cond.initialized RX7, Cond.code yX7_isMessage cX7_isMessage 2 (some .boolean), Cond.fieldLink RX7 79 "CommitCouncilModel" "many" "I", Cond.methodLink RX7 93 yX7_lacks, Cond.instanceMethod yX7_lacks, Cond.selects RX7 yX7_lacks yX7_lacks, Cond.code yX7_lacks cX7_lacks 2 (some .boolean), Cond.fieldLink RX7 76 "CommitCouncilModel" "thrown" "I", Cond.methodLink RX7 149 yX7_comes, Cond.instanceMethod yX7_comes, Cond.selects RX7 yX7_comes yX7_comes, Cond.code yX7_comes cX7_comes 6 (some .int), Cond.fieldLink RX7 21 "CommitCouncilModel" "up" "[[Z", Cond.fieldLink RX7 13 "CommitCouncilModel" "made" "[I", Cond.fieldLink RX7 159 "CommitCouncilModel" "came" "I", Cond.fieldLink RX7 48 "CommitCouncilModel" "decision" "[I", Cond.fieldLink RX7 16 "CommitCouncilModel" "how" "[I", Cond.methodLink RX7 114 yX7_of, Cond.instanceMethod yX7_of, Cond.selects RX7 yX7_of yX7_of, Cond.code yX7_of cX7_of 3 (some .int)]
def wsX7_deliver_r2 : List Cond := [Cond.fieldLink RX7 9 "CommitCouncilModel" "message" "[I", Cond.methodLink RX7 152 yX7_leadsTo, Cond.instanceMethod yX7_leadsTo, Cond.selects RX7 yX7_leadsTo yX7_leadsTo, Cond.code yX7_leadsTo cX7_leadsTo 4 (some .int), Cond.fieldLink RX7 24 "CommitCouncilModel" "promised" "[I", Cond.fieldLink RX7 42 "CommitCouncilModel" "phase" "[I", Cond.fieldLink RX7 39 "CommitCouncilModel" "ballot" "[I", Cond.fieldLink RX7 51 "CommitCouncilModel" "told" "[I", Cond.fieldLink RX7 69 "CommitCouncilModel" "managers" "I", Cond.fieldLink RX7 73 "CommitCouncilModel" "acceptors" "I", Cond.methodLink RX7 118 yX7_bits, Cond.static yX7_bits, Cond.code yX7_bits cX7_bits 3 (some .int), Cond.methodLink RX7 122 yX7_isMost, Cond.instanceMethod yX7_isMost, Cond.selects RX7 yX7_isMost yX7_isMost, Cond.code yX7_isMost cX7_isMost 2 (some .boolean), Cond.methodLink RX7 125 yX7_decides, Cond.instanceMethod yX7_decides, Cond.selects RX7 yX7_decides yX7_decides, Cond.code yX7_decides cX7_decides 3 (some .boolean), Cond.methodLink RX7 143 yX7_decided, Cond.instanceMethod yX7_decided]
def wsX7_deliver_r3 : List Cond := [Cond.selects RX7 yX7_decided yX7_decided, Cond.code yX7_decided cX7_decided 6 (some .int), Cond.methodLink RX7 140 yX7_settled, Cond.instanceMethod yX7_settled, Cond.selects RX7 yX7_settled yX7_settled, Cond.code yX7_settled cX7_settled 8 (some .int), Cond.fieldLink RX7 66 "CommitCouncilModel" "outcome" "[I", Cond.fieldLink RX7 63 "CommitCouncilModel" "seenWord" "[I", Cond.methodLink RX7 128 yX7_ballotSeen, Cond.instanceMethod yX7_ballotSeen, Cond.selects RX7 yX7_ballotSeen yX7_ballotSeen, Cond.code yX7_ballotSeen cX7_ballotSeen 5 (some .int), Cond.fieldLink RX7 60 "CommitCouncilModel" "seenBallot" "[I", Cond.methodLink RX7 132 yX7_isNew, Cond.instanceMethod yX7_isNew, Cond.selects RX7 yX7_isNew yX7_isNew, Cond.code yX7_isNew cX7_isNew 5 (some .boolean), Cond.methodLink RX7 136 yX7_seenAt, Cond.instanceMethod yX7_seenAt, Cond.selects RX7 yX7_seenAt yX7_seenAt, Cond.code yX7_seenAt cX7_seenAt 4 (some .int), Cond.methodLink RX7 155 yX7_remove, Cond.instanceMethod yX7_remove, Cond.selects RX7 yX7_remove yX7_remove]
def wsX7_deliver_r4 : List Cond := [Cond.code yX7_remove cX7_remove 3 none, Cond.methodLink RX7 162 yX7_voteComes, Cond.instanceMethod yX7_voteComes, Cond.selects RX7 yX7_voteComes yX7_voteComes, Cond.code yX7_voteComes cX7_voteComes 6 none, Cond.fieldLink RX7 27 "CommitCouncilModel" "acceptedBallot" "[I", Cond.fieldLink RX7 30 "CommitCouncilModel" "acceptedWord" "[I", Cond.fieldLink RX7 33 "CommitCouncilModel" "ever" "[I", Cond.fieldLink RX7 36 "CommitCouncilModel" "everWord" "[I", Cond.methodLink RX7 85 yX7_sends, Cond.instanceMethod yX7_sends, Cond.selects RX7 yX7_sends yX7_sends, Cond.code yX7_sends cX7_sends 9 none, Cond.fieldLink RX7 82 "CommitCouncilModel" "sent" "I", Cond.methodLink RX7 165 yX7_askComes, Cond.instanceMethod yX7_askComes, Cond.selects RX7 yX7_askComes yX7_askComes, Cond.code yX7_askComes cX7_askComes 5 none, Cond.methodLink RX7 168 yX7_toldComes, Cond.instanceMethod yX7_toldComes, Cond.selects RX7 yX7_toldComes yX7_toldComes, Cond.code yX7_toldComes cX7_toldComes 8 none, Cond.fieldLink RX7 45 "CommitCouncilModel" "highest" "[I", Cond.methodLink RX7 175 Lib.Math.max.name]
def wsX7_deliver_r5 : List Cond := [Cond.static Lib.Math.max.name, Cond.initialized "java/lang/Math", Cond.code Lib.Math.max.name Lib.Math.max.code 2 (some .int), Cond.fieldLink RX7 54 "CommitCouncilModel" "toldBallot" "[I", Cond.fieldLink RX7 57 "CommitCouncilModel" "toldWord" "[I", Cond.methodLink RX7 100 yX7_votes, Cond.instanceMethod yX7_votes, Cond.selects RX7 yX7_votes yX7_votes, Cond.code yX7_votes cX7_votes 5 none, Cond.methodLink RX7 171 yX7_votedComes, Cond.instanceMethod yX7_votedComes, Cond.selects RX7 yX7_votedComes yX7_votedComes, Cond.code yX7_votedComes cX7_votedComes 6 none]
def wsX7_deliver : List Cond := .code yX7_deliver cX7_deliver 2 (some .int) :: ((wsX7_deliver_r1 ++ (wsX7_deliver_r2 ++ (wsX7_deliver_r3 ++ (wsX7_deliver_r4 ++ wsX7_deliver_r5)))) ++ wsX70)
def wsX7_drop : List Cond := .code yX7_drop cX7_drop 2 none :: ([.methodLink RX7 146 yX7_isMessage, .instanceMethod yX7_isMessage, .selects RX7 yX7_isMessage yX7_isMessage, .initialized RX7, .code yX7_isMessage cX7_isMessage 2 (some .boolean), .fieldLink RX7 79 "CommitCouncilModel" "many" "I", .methodLink RX7 93 yX7_lacks, .instanceMethod yX7_lacks, .selects RX7 yX7_lacks yX7_lacks, .code yX7_lacks cX7_lacks 2 (some .boolean), .fieldLink RX7 76 "CommitCouncilModel" "thrown" "I", .methodLink RX7 155 yX7_remove, .instanceMethod yX7_remove, .selects RX7 yX7_remove yX7_remove, .code yX7_remove cX7_remove 3 none, .fieldLink RX7 9 "CommitCouncilModel" "message" "[I"] ++ wsX70)
def wsX7_copy : List Cond := .code yX7_copy cX7_copy 3 (some .int) :: ([.fieldLink RX7 9 "CommitCouncilModel" "message" "[I", .fieldLink RX7 79 "CommitCouncilModel" "many" "I", .fieldLink RX7 82 "CommitCouncilModel" "sent" "I", .methodLink RX7 146 yX7_isMessage, .instanceMethod yX7_isMessage, .selects RX7 yX7_isMessage yX7_isMessage, .initialized RX7, .code yX7_isMessage cX7_isMessage 2 (some .boolean), .methodLink RX7 93 yX7_lacks, .instanceMethod yX7_lacks, .selects RX7 yX7_lacks yX7_lacks, .code yX7_lacks cX7_lacks 2 (some .boolean), .fieldLink RX7 76 "CommitCouncilModel" "thrown" "I", .methodLink RX7 97 yX7_hasRoom, .instanceMethod yX7_hasRoom, .selects RX7 yX7_hasRoom yX7_hasRoom, .code yX7_hasRoom cX7_hasRoom 2 (some .boolean), .methodLink RX7 114 yX7_of, .instanceMethod yX7_of, .selects RX7 yX7_of yX7_of, .code yX7_of cX7_of 3 (some .int)] ++ wsX70)
def wsX7_calm_r1 : List Cond := [Cond.fieldLink RX7 76 "CommitCouncilModel" "thrown" "I", Cond.fieldLink RX7 79 "CommitCouncilModel" "many" "I", Cond.methodLink RX7 149 yX7_comes, Cond.instanceMethod yX7_comes, Cond.selects RX7 yX7_comes yX7_comes, Cond.initialized RX7, Cond.code yX7_comes cX7_comes 6 (some .int), Cond.fieldLink RX7 21 "CommitCouncilModel" "up" "[[Z", Cond.fieldLink RX7 13 "CommitCouncilModel" "made" "[I", Cond.fieldLink RX7 159 "CommitCouncilModel" "came" "I", Cond.fieldLink RX7 48 "CommitCouncilModel" "decision" "[I", Cond.fieldLink RX7 16 "CommitCouncilModel" "how" "[I", Cond.methodLink RX7 114 yX7_of, Cond.instanceMethod yX7_of, Cond.selects RX7 yX7_of yX7_of, Cond.code yX7_of cX7_of 3 (some .int), Cond.fieldLink RX7 9 "CommitCouncilModel" "message" "[I", Cond.methodLink RX7 152 yX7_leadsTo, Cond.instanceMethod yX7_leadsTo, Cond.selects RX7 yX7_leadsTo yX7_leadsTo, Cond.code yX7_leadsTo cX7_leadsTo 4 (some .int), Cond.fieldLink RX7 24 "CommitCouncilModel" "promised" "[I", Cond.fieldLink RX7 42 "CommitCouncilModel" "phase" "[I", Cond.fieldLink RX7 39 "CommitCouncilModel" "ballot" "[I"]
def wsX7_calm_r2 : List Cond := [Cond.fieldLink RX7 51 "CommitCouncilModel" "told" "[I", Cond.fieldLink RX7 69 "CommitCouncilModel" "managers" "I", Cond.fieldLink RX7 73 "CommitCouncilModel" "acceptors" "I", Cond.methodLink RX7 118 yX7_bits, Cond.static yX7_bits, Cond.code yX7_bits cX7_bits 3 (some .int), Cond.methodLink RX7 122 yX7_isMost, Cond.instanceMethod yX7_isMost, Cond.selects RX7 yX7_isMost yX7_isMost, Cond.code yX7_isMost cX7_isMost 2 (some .boolean), Cond.methodLink RX7 125 yX7_decides, Cond.instanceMethod yX7_decides, Cond.selects RX7 yX7_decides yX7_decides, Cond.code yX7_decides cX7_decides 3 (some .boolean), Cond.methodLink RX7 143 yX7_decided, Cond.instanceMethod yX7_decided, Cond.selects RX7 yX7_decided yX7_decided, Cond.code yX7_decided cX7_decided 6 (some .int), Cond.methodLink RX7 140 yX7_settled, Cond.instanceMethod yX7_settled, Cond.selects RX7 yX7_settled yX7_settled, Cond.code yX7_settled cX7_settled 8 (some .int), Cond.fieldLink RX7 66 "CommitCouncilModel" "outcome" "[I", Cond.fieldLink RX7 63 "CommitCouncilModel" "seenWord" "[I"]
def wsX7_calm_r3 : List Cond := [Cond.methodLink RX7 128 yX7_ballotSeen, Cond.instanceMethod yX7_ballotSeen, Cond.selects RX7 yX7_ballotSeen yX7_ballotSeen, Cond.code yX7_ballotSeen cX7_ballotSeen 5 (some .int), Cond.fieldLink RX7 60 "CommitCouncilModel" "seenBallot" "[I", Cond.methodLink RX7 132 yX7_isNew, Cond.instanceMethod yX7_isNew, Cond.selects RX7 yX7_isNew yX7_isNew, Cond.code yX7_isNew cX7_isNew 5 (some .boolean), Cond.methodLink RX7 136 yX7_seenAt, Cond.instanceMethod yX7_seenAt, Cond.selects RX7 yX7_seenAt yX7_seenAt, Cond.code yX7_seenAt cX7_seenAt 4 (some .int), Cond.methodLink RX7 155 yX7_remove, Cond.instanceMethod yX7_remove, Cond.selects RX7 yX7_remove yX7_remove, Cond.code yX7_remove cX7_remove 3 none, Cond.methodLink RX7 162 yX7_voteComes, Cond.instanceMethod yX7_voteComes, Cond.selects RX7 yX7_voteComes yX7_voteComes, Cond.code yX7_voteComes cX7_voteComes 6 none, Cond.fieldLink RX7 27 "CommitCouncilModel" "acceptedBallot" "[I", Cond.fieldLink RX7 30 "CommitCouncilModel" "acceptedWord" "[I", Cond.fieldLink RX7 33 "CommitCouncilModel" "ever" "[I"]
def wsX7_calm_r4 : List Cond := [Cond.fieldLink RX7 36 "CommitCouncilModel" "everWord" "[I", Cond.methodLink RX7 85 yX7_sends, Cond.instanceMethod yX7_sends, Cond.selects RX7 yX7_sends yX7_sends, Cond.code yX7_sends cX7_sends 9 none, Cond.fieldLink RX7 82 "CommitCouncilModel" "sent" "I", Cond.methodLink RX7 165 yX7_askComes, Cond.instanceMethod yX7_askComes, Cond.selects RX7 yX7_askComes yX7_askComes, Cond.code yX7_askComes cX7_askComes 5 none, Cond.methodLink RX7 168 yX7_toldComes, Cond.instanceMethod yX7_toldComes, Cond.selects RX7 yX7_toldComes yX7_toldComes, Cond.code yX7_toldComes cX7_toldComes 8 none, Cond.fieldLink RX7 45 "CommitCouncilModel" "highest" "[I", Cond.methodLink RX7 175 Lib.Math.max.name, Cond.static Lib.Math.max.name, Cond.initialized "java/lang/Math", Cond.code Lib.Math.max.name Lib.Math.max.code 2 (some .int), Cond.fieldLink RX7 54 "CommitCouncilModel" "toldBallot" "[I", Cond.fieldLink RX7 57 "CommitCouncilModel" "toldWord" "[I", Cond.methodLink RX7 100 yX7_votes, Cond.instanceMethod yX7_votes, Cond.selects RX7 yX7_votes yX7_votes]
def wsX7_calm_r5 : List Cond := [Cond.code yX7_votes cX7_votes 5 none, Cond.methodLink RX7 171 yX7_votedComes, Cond.instanceMethod yX7_votedComes, Cond.selects RX7 yX7_votedComes yX7_votedComes, Cond.code yX7_votedComes cX7_votedComes 6 none]
def wsX7_calm : List Cond := .code yX7_calm cX7_calm 3 (some .int) :: ((wsX7_calm_r1 ++ (wsX7_calm_r2 ++ (wsX7_calm_r3 ++ (wsX7_calm_r4 ++ wsX7_calm_r5)))) ++ wsX70)
def wsX7_manyOf : List Cond := .code yX7_manyOf cX7_manyOf 2 (some .int) :: ([.fieldLink RX7 69 "CommitCouncilModel" "managers" "I", .fieldLink RX7 73 "CommitCouncilModel" "acceptors" "I"] ++ wsX70)
def wsX7_turns : List Cond := .code yX7_turns cX7_turns 6 (some .boolean) :: ([.fieldLink RX7 76 "CommitCouncilModel" "thrown" "I", .fieldLink RX7 21 "CommitCouncilModel" "up" "[[Z", .fieldLink RX7 42 "CommitCouncilModel" "phase" "[I", .fieldLink RX7 48 "CommitCouncilModel" "decision" "[I", .fieldLink RX7 51 "CommitCouncilModel" "told" "[I", .fieldLink RX7 66 "CommitCouncilModel" "outcome" "[I", .fieldLink RX7 60 "CommitCouncilModel" "seenBallot" "[I", .methodLink RX7 180 yX7_manyOf, .instanceMethod yX7_manyOf, .selects RX7 yX7_manyOf yX7_manyOf, .initialized RX7, .code yX7_manyOf cX7_manyOf 2 (some .int), .fieldLink RX7 69 "CommitCouncilModel" "managers" "I", .fieldLink RX7 73 "CommitCouncilModel" "acceptors" "I", .methodLink RX7 136 yX7_seenAt, .instanceMethod yX7_seenAt, .selects RX7 yX7_seenAt yX7_seenAt, .code yX7_seenAt cX7_seenAt 4 (some .int)] ++ wsX70)
def wsX7_crash : List Cond := .code yX7_crash cX7_crash 3 (some .boolean) :: ([.methodLink RX7 183 yX7_turns, .instanceMethod yX7_turns, .selects RX7 yX7_turns yX7_turns, .initialized RX7, .code yX7_turns cX7_turns 6 (some .boolean), .fieldLink RX7 76 "CommitCouncilModel" "thrown" "I", .fieldLink RX7 21 "CommitCouncilModel" "up" "[[Z", .fieldLink RX7 42 "CommitCouncilModel" "phase" "[I", .fieldLink RX7 48 "CommitCouncilModel" "decision" "[I", .fieldLink RX7 51 "CommitCouncilModel" "told" "[I", .fieldLink RX7 66 "CommitCouncilModel" "outcome" "[I", .fieldLink RX7 60 "CommitCouncilModel" "seenBallot" "[I", .methodLink RX7 180 yX7_manyOf, .instanceMethod yX7_manyOf, .selects RX7 yX7_manyOf yX7_manyOf, .code yX7_manyOf cX7_manyOf 2 (some .int), .fieldLink RX7 69 "CommitCouncilModel" "managers" "I", .fieldLink RX7 73 "CommitCouncilModel" "acceptors" "I", .methodLink RX7 136 yX7_seenAt, .instanceMethod yX7_seenAt, .selects RX7 yX7_seenAt yX7_seenAt, .code yX7_seenAt cX7_seenAt 4 (some .int)] ++ wsX70)
def wsX7_recover : List Cond := .code yX7_recover cX7_recover 3 (some .boolean) :: ([.methodLink RX7 183 yX7_turns, .instanceMethod yX7_turns, .selects RX7 yX7_turns yX7_turns, .initialized RX7, .code yX7_turns cX7_turns 6 (some .boolean), .fieldLink RX7 76 "CommitCouncilModel" "thrown" "I", .fieldLink RX7 21 "CommitCouncilModel" "up" "[[Z", .fieldLink RX7 42 "CommitCouncilModel" "phase" "[I", .fieldLink RX7 48 "CommitCouncilModel" "decision" "[I", .fieldLink RX7 51 "CommitCouncilModel" "told" "[I", .fieldLink RX7 66 "CommitCouncilModel" "outcome" "[I", .fieldLink RX7 60 "CommitCouncilModel" "seenBallot" "[I", .methodLink RX7 180 yX7_manyOf, .instanceMethod yX7_manyOf, .selects RX7 yX7_manyOf yX7_manyOf, .code yX7_manyOf cX7_manyOf 2 (some .int), .fieldLink RX7 69 "CommitCouncilModel" "managers" "I", .fieldLink RX7 73 "CommitCouncilModel" "acceptors" "I", .methodLink RX7 136 yX7_seenAt, .instanceMethod yX7_seenAt, .selects RX7 yX7_seenAt yX7_seenAt, .code yX7_seenAt cX7_seenAt 4 (some .int)] ++ wsX70)
def wsX7_message : List Cond := .code yX7_message cX7_message 3 (some .int) :: ([.methodLink RX7 146 yX7_isMessage, .instanceMethod yX7_isMessage, .selects RX7 yX7_isMessage yX7_isMessage, .initialized RX7, .code yX7_isMessage cX7_isMessage 2 (some .boolean), .fieldLink RX7 79 "CommitCouncilModel" "many" "I", .methodLink RX7 93 yX7_lacks, .instanceMethod yX7_lacks, .selects RX7 yX7_lacks yX7_lacks, .code yX7_lacks cX7_lacks 2 (some .boolean), .fieldLink RX7 76 "CommitCouncilModel" "thrown" "I", .methodLink RX7 114 yX7_of, .instanceMethod yX7_of, .selects RX7 yX7_of yX7_of, .code yX7_of cX7_of 3 (some .int), .fieldLink RX7 9 "CommitCouncilModel" "message" "[I"] ++ wsX70)
def wsX7_told : List Cond := .code yX7_told cX7_told 4 (some .int) :: ([.methodLink RX7 146 yX7_isMessage, .instanceMethod yX7_isMessage, .selects RX7 yX7_isMessage yX7_isMessage, .initialized RX7, .code yX7_isMessage cX7_isMessage 2 (some .boolean), .fieldLink RX7 79 "CommitCouncilModel" "many" "I", .methodLink RX7 89 yX7_isManager, .instanceMethod yX7_isManager, .selects RX7 yX7_isManager yX7_isManager, .code yX7_isManager cX7_isManager 2 (some .boolean), .fieldLink RX7 69 "CommitCouncilModel" "managers" "I", .methodLink RX7 93 yX7_lacks, .instanceMethod yX7_lacks, .selects RX7 yX7_lacks yX7_lacks, .code yX7_lacks cX7_lacks 2 (some .boolean), .fieldLink RX7 76 "CommitCouncilModel" "thrown" "I", .methodLink RX7 114 yX7_of, .instanceMethod yX7_of, .selects RX7 yX7_of yX7_of, .code yX7_of cX7_of 3 (some .int), .fieldLink RX7 9 "CommitCouncilModel" "message" "[I"] ++ wsX70)
def wsX7_manager : List Cond := .code yX7_manager cX7_manager 3 (some .int) :: ([.fieldLink RX7 16 "CommitCouncilModel" "how" "[I", .fieldLink RX7 21 "CommitCouncilModel" "up" "[[Z", .methodLink RX7 89 yX7_isManager, .instanceMethod yX7_isManager, .selects RX7 yX7_isManager yX7_isManager, .initialized RX7, .code yX7_isManager cX7_isManager 2 (some .boolean), .fieldLink RX7 69 "CommitCouncilModel" "managers" "I", .methodLink RX7 93 yX7_lacks, .instanceMethod yX7_lacks, .selects RX7 yX7_lacks yX7_lacks, .code yX7_lacks cX7_lacks 2 (some .boolean), .fieldLink RX7 76 "CommitCouncilModel" "thrown" "I"] ++ wsX70)
def wsX7_acceptor : List Cond := .code yX7_acceptor cX7_acceptor 4 (some .int) :: ([.fieldLink RX7 24 "CommitCouncilModel" "promised" "[I", .fieldLink RX7 21 "CommitCouncilModel" "up" "[[Z", .fieldLink RX7 27 "CommitCouncilModel" "acceptedBallot" "[I", .fieldLink RX7 30 "CommitCouncilModel" "acceptedWord" "[I", .methodLink RX7 187 yX7_isAcceptor, .instanceMethod yX7_isAcceptor, .selects RX7 yX7_isAcceptor yX7_isAcceptor, .initialized RX7, .code yX7_isAcceptor cX7_isAcceptor 2 (some .boolean), .fieldLink RX7 73 "CommitCouncilModel" "acceptors" "I", .methodLink RX7 89 yX7_isManager, .instanceMethod yX7_isManager, .selects RX7 yX7_isManager yX7_isManager, .code yX7_isManager cX7_isManager 2 (some .boolean), .fieldLink RX7 69 "CommitCouncilModel" "managers" "I", .methodLink RX7 93 yX7_lacks, .instanceMethod yX7_lacks, .selects RX7 yX7_lacks yX7_lacks, .code yX7_lacks cX7_lacks 2 (some .boolean), .fieldLink RX7 76 "CommitCouncilModel" "thrown" "I"] ++ wsX70)
def wsX7_leader : List Cond := .code yX7_leader cX7_leader 3 (some .int) :: ([.fieldLink RX7 39 "CommitCouncilModel" "ballot" "[I", .fieldLink RX7 42 "CommitCouncilModel" "phase" "[I", .fieldLink RX7 45 "CommitCouncilModel" "highest" "[I", .fieldLink RX7 48 "CommitCouncilModel" "decision" "[I", .fieldLink RX7 21 "CommitCouncilModel" "up" "[[Z", .fieldLink RX7 51 "CommitCouncilModel" "told" "[I", .methodLink RX7 108 yX7_isLeader, .static yX7_isLeader, .initialized RX7, .code yX7_isLeader cX7_isLeader 1 (some .boolean), .methodLink RX7 93 yX7_lacks, .instanceMethod yX7_lacks, .selects RX7 yX7_lacks yX7_lacks, .code yX7_lacks cX7_lacks 2 (some .boolean), .fieldLink RX7 76 "CommitCouncilModel" "thrown" "I", .methodLink RX7 118 yX7_bits, .static yX7_bits, .code yX7_bits cX7_bits 3 (some .int)] ++ wsX70)
def wsX7_outcome : List Cond := .code yX7_outcome cX7_outcome 3 (some .int) :: ([.fieldLink RX7 66 "CommitCouncilModel" "outcome" "[I", .methodLink RX7 108 yX7_isLeader, .static yX7_isLeader, .initialized RX7, .code yX7_isLeader cX7_isLeader 1 (some .boolean), .methodLink RX7 89 yX7_isManager, .instanceMethod yX7_isManager, .selects RX7 yX7_isManager yX7_isManager, .code yX7_isManager cX7_isManager 2 (some .boolean), .fieldLink RX7 69 "CommitCouncilModel" "managers" "I", .methodLink RX7 93 yX7_lacks, .instanceMethod yX7_lacks, .selects RX7 yX7_lacks yX7_lacks, .code yX7_lacks cX7_lacks 2 (some .boolean), .fieldLink RX7 76 "CommitCouncilModel" "thrown" "I"] ++ wsX70)
def wsX7_seen : List Cond := .code yX7_seen cX7_seen 4 (some .int) :: ([.fieldLink RX7 60 "CommitCouncilModel" "seenBallot" "[I", .methodLink RX7 108 yX7_isLeader, .static yX7_isLeader, .initialized RX7, .code yX7_isLeader cX7_isLeader 1 (some .boolean), .methodLink RX7 89 yX7_isManager, .instanceMethod yX7_isManager, .selects RX7 yX7_isManager yX7_isManager, .code yX7_isManager cX7_isManager 2 (some .boolean), .fieldLink RX7 69 "CommitCouncilModel" "managers" "I", .methodLink RX7 187 yX7_isAcceptor, .instanceMethod yX7_isAcceptor, .selects RX7 yX7_isAcceptor yX7_isAcceptor, .code yX7_isAcceptor cX7_isAcceptor 2 (some .boolean), .fieldLink RX7 73 "CommitCouncilModel" "acceptors" "I", .methodLink RX7 93 yX7_lacks, .instanceMethod yX7_lacks, .selects RX7 yX7_lacks yX7_lacks, .code yX7_lacks cX7_lacks 2 (some .boolean), .fieldLink RX7 76 "CommitCouncilModel" "thrown" "I", .methodLink RX7 136 yX7_seenAt, .instanceMethod yX7_seenAt, .selects RX7 yX7_seenAt yX7_seenAt, .code yX7_seenAt cX7_seenAt 4 (some .int)] ++ wsX70)
def wsX7_chosen : List Cond := .code yX7_chosen cX7_chosen 3 (some .int) :: ([.fieldLink RX7 33 "CommitCouncilModel" "ever" "[I", .fieldLink RX7 36 "CommitCouncilModel" "everWord" "[I", .methodLink RX7 89 yX7_isManager, .instanceMethod yX7_isManager, .selects RX7 yX7_isManager yX7_isManager, .initialized RX7, .code yX7_isManager cX7_isManager 2 (some .boolean), .fieldLink RX7 69 "CommitCouncilModel" "managers" "I", .methodLink RX7 93 yX7_lacks, .instanceMethod yX7_lacks, .selects RX7 yX7_lacks yX7_lacks, .code yX7_lacks cX7_lacks 2 (some .boolean), .fieldLink RX7 76 "CommitCouncilModel" "thrown" "I", .methodLink RX7 118 yX7_bits, .static yX7_bits, .code yX7_bits cX7_bits 3 (some .int), .methodLink RX7 122 yX7_isMost, .instanceMethod yX7_isMost, .selects RX7 yX7_isMost yX7_isMost, .code yX7_isMost cX7_isMost 2 (some .boolean), .fieldLink RX7 73 "CommitCouncilModel" "acceptors" "I"] ++ wsX70)
def wsX7_count : List Cond := .code yX7_count cX7_count 4 (some .int) :: ([.fieldLink RX7 76 "CommitCouncilModel" "thrown" "I", .fieldLink RX7 69 "CommitCouncilModel" "managers" "I", .fieldLink RX7 73 "CommitCouncilModel" "acceptors" "I", .fieldLink RX7 79 "CommitCouncilModel" "many" "I", .fieldLink RX7 82 "CommitCouncilModel" "sent" "I", .fieldLink RX7 159 "CommitCouncilModel" "came" "I", .fieldLink RX7 21 "CommitCouncilModel" "up" "[[Z", .fieldLink RX7 16 "CommitCouncilModel" "how" "[I", .fieldLink RX7 111 "CommitCouncilModel" "begun" "I", .methodLink RX7 180 yX7_manyOf, .instanceMethod yX7_manyOf, .selects RX7 yX7_manyOf yX7_manyOf, .initialized RX7, .code yX7_manyOf cX7_manyOf 2 (some .int)] ++ wsX70)
def wsX7_astray : List Cond := .code yX7_astray cX7_astray 1 (some .int) :: ([.fieldLink RX7 76 "CommitCouncilModel" "thrown" "I"] ++ wsX70)
def wsJ9_max_7cf53 : List Cond := .code yJ9_max_7cf53 cJ9_max_7cf53 2 (some .int) :: ([])
def wsL_cell : List Cond := .code yL_cell cL_cell 2 (some .int) :: ([])
def wsL_prepare_r1 : List Cond := [Cond.classLink RL 13 "java/lang/IndexOutOfBoundsException", Cond.methodLink RL 7 yX6_prepare, Cond.instanceMethod yX6_prepare, Cond.selects RX6 yX6_prepare yX6_prepare, Cond.initialized RX6, Cond.code yX6_prepare cX6_prepare 2 (some .boolean), Cond.fieldLink RX6 11 "CommitCouncil" "managers" "[LCommitCouncil$Manager;", Cond.methodLink RX6 48 yX6_checkOne, Cond.static yX6_checkOne, Cond.code yX6_checkOne cX6_checkOne 2 none, Cond.classLink RX6 190 "java/lang/IndexOutOfBoundsException", Cond.initialized "java/lang/IndexOutOfBoundsException", Cond.methodLink RX6 51 yX6_propose, Cond.instanceMethod yX6_propose, Cond.selects RX6 yX6_propose yX6_propose, Cond.code yX6_propose cX6_propose 5 (some .boolean), Cond.fieldLink RX6 59 "CommitCouncil$Manager" "up" "Z", Cond.sameField "CommitCouncil$Manager" "CommitCouncil$Member" "up" "Z", Cond.fieldLink RX6 55 "CommitCouncil$Manager" "state" "I", Cond.fieldLink RX6 37 "CommitCouncil" "mail" "LCommitCouncil$Mail;", Cond.fieldLink RX6 18 "CommitCouncil" "acceptors" "[LCommitCouncil$Acceptor;", Cond.fieldLink RX6 67 "CommitCouncil$Manager" "proposed" "I", Cond.methodLink RX6 63 yX3_hasRoomFor, Cond.instanceMethod yX3_hasRoomFor]
def wsL_prepare_r2 : List Cond := [Cond.selects RX3 yX3_hasRoomFor yX3_hasRoomFor, Cond.initialized RX3, Cond.code yX3_hasRoomFor cX3_hasRoomFor 2 (some .boolean), Cond.fieldLink RX3 19 "CommitCouncil$Mail" "size" "I", Cond.methodLink RX6 70 yX6_sendVotes, Cond.instanceMethod yX6_sendVotes, Cond.selects RX6 yX6_sendVotes yX6_sendVotes, Cond.code yX6_sendVotes cX6_sendVotes 5 none, Cond.methodLink RX6 74 yX3_send, Cond.instanceMethod yX3_send, Cond.selects RX3 yX3_send yX3_send, Cond.code yX3_send cX3_send 8 none, Cond.fieldLink RX3 11 "CommitCouncil$Mail" "width" "I", Cond.fieldLink RX3 15 "CommitCouncil$Mail" "cells" "[I", Cond.fieldLink RX3 22 "CommitCouncil$Mail" "sent" "I"]
def wsL_prepare : List Cond := .codeWith yL_prepare cL_prepare 4 (some .int) [(0, 16, 19, 13)] :: ((wsL_prepare_r1 ++ wsL_prepare_r2) ++ wsX60 ++ wsX00 ++ wsX10 ++ wsX40 ++ wsX30 ++ (vx_atS RX6 194 "java/lang/IndexOutOfBoundsException" ["java/lang/RuntimeException", "java/lang/Exception"]).filter goodWord)
def wsL_refuse_r1 : List Cond := [Cond.classLink RL 13 "java/lang/IndexOutOfBoundsException", Cond.methodLink RL 15 yX6_refuse, Cond.instanceMethod yX6_refuse, Cond.selects RX6 yX6_refuse yX6_refuse, Cond.initialized RX6, Cond.code yX6_refuse cX6_refuse 2 (some .boolean), Cond.fieldLink RX6 11 "CommitCouncil" "managers" "[LCommitCouncil$Manager;", Cond.methodLink RX6 48 yX6_checkOne, Cond.static yX6_checkOne, Cond.code yX6_checkOne cX6_checkOne 2 none, Cond.classLink RX6 190 "java/lang/IndexOutOfBoundsException", Cond.initialized "java/lang/IndexOutOfBoundsException", Cond.methodLink RX6 51 yX6_propose, Cond.instanceMethod yX6_propose, Cond.selects RX6 yX6_propose yX6_propose, Cond.code yX6_propose cX6_propose 5 (some .boolean), Cond.fieldLink RX6 59 "CommitCouncil$Manager" "up" "Z", Cond.sameField "CommitCouncil$Manager" "CommitCouncil$Member" "up" "Z", Cond.fieldLink RX6 55 "CommitCouncil$Manager" "state" "I", Cond.fieldLink RX6 37 "CommitCouncil" "mail" "LCommitCouncil$Mail;", Cond.fieldLink RX6 18 "CommitCouncil" "acceptors" "[LCommitCouncil$Acceptor;", Cond.fieldLink RX6 67 "CommitCouncil$Manager" "proposed" "I", Cond.methodLink RX6 63 yX3_hasRoomFor, Cond.instanceMethod yX3_hasRoomFor]
def wsL_refuse_r2 : List Cond := [Cond.selects RX3 yX3_hasRoomFor yX3_hasRoomFor, Cond.initialized RX3, Cond.code yX3_hasRoomFor cX3_hasRoomFor 2 (some .boolean), Cond.fieldLink RX3 19 "CommitCouncil$Mail" "size" "I", Cond.methodLink RX6 70 yX6_sendVotes, Cond.instanceMethod yX6_sendVotes, Cond.selects RX6 yX6_sendVotes yX6_sendVotes, Cond.code yX6_sendVotes cX6_sendVotes 5 none, Cond.methodLink RX6 74 yX3_send, Cond.instanceMethod yX3_send, Cond.selects RX3 yX3_send yX3_send, Cond.code yX3_send cX3_send 8 none, Cond.fieldLink RX3 11 "CommitCouncil$Mail" "width" "I", Cond.fieldLink RX3 15 "CommitCouncil$Mail" "cells" "[I", Cond.fieldLink RX3 22 "CommitCouncil$Mail" "sent" "I"]
def wsL_refuse : List Cond := .codeWith yL_refuse cL_refuse 4 (some .int) [(0, 16, 19, 13)] :: ((wsL_refuse_r1 ++ wsL_refuse_r2) ++ wsX60 ++ wsX00 ++ wsX10 ++ wsX40 ++ wsX30 ++ (vx_atS RX6 194 "java/lang/IndexOutOfBoundsException" ["java/lang/RuntimeException", "java/lang/Exception"]).filter goodWord)
def wsL_resend_r1 : List Cond := [Cond.classLink RL 13 "java/lang/IndexOutOfBoundsException", Cond.methodLink RL 18 yX6_resend, Cond.instanceMethod yX6_resend, Cond.selects RX6 yX6_resend yX6_resend, Cond.initialized RX6, Cond.code yX6_resend cX6_resend 4 (some .boolean), Cond.fieldLink RX6 11 "CommitCouncil" "managers" "[LCommitCouncil$Manager;", Cond.fieldLink RX6 55 "CommitCouncil$Manager" "state" "I", Cond.fieldLink RX6 59 "CommitCouncil$Manager" "up" "Z", Cond.sameField "CommitCouncil$Manager" "CommitCouncil$Member" "up" "Z", Cond.fieldLink RX6 37 "CommitCouncil" "mail" "LCommitCouncil$Mail;", Cond.fieldLink RX6 18 "CommitCouncil" "acceptors" "[LCommitCouncil$Acceptor;", Cond.fieldLink RX6 67 "CommitCouncil$Manager" "proposed" "I", Cond.methodLink RX6 48 yX6_checkOne, Cond.static yX6_checkOne, Cond.code yX6_checkOne cX6_checkOne 2 none, Cond.classLink RX6 190 "java/lang/IndexOutOfBoundsException", Cond.initialized "java/lang/IndexOutOfBoundsException", Cond.methodLink RX6 63 yX3_hasRoomFor, Cond.instanceMethod yX3_hasRoomFor, Cond.selects RX3 yX3_hasRoomFor yX3_hasRoomFor, Cond.initialized RX3, Cond.code yX3_hasRoomFor cX3_hasRoomFor 2 (some .boolean), Cond.fieldLink RX3 19 "CommitCouncil$Mail" "size" "I"]
def wsL_resend_r2 : List Cond := [Cond.methodLink RX6 70 yX6_sendVotes, Cond.instanceMethod yX6_sendVotes, Cond.selects RX6 yX6_sendVotes yX6_sendVotes, Cond.code yX6_sendVotes cX6_sendVotes 5 none, Cond.methodLink RX6 74 yX3_send, Cond.instanceMethod yX3_send, Cond.selects RX3 yX3_send yX3_send, Cond.code yX3_send cX3_send 8 none, Cond.fieldLink RX3 11 "CommitCouncil$Mail" "width" "I", Cond.fieldLink RX3 15 "CommitCouncil$Mail" "cells" "[I", Cond.fieldLink RX3 22 "CommitCouncil$Mail" "sent" "I"]
def wsL_resend : List Cond := .codeWith yL_resend cL_resend 4 (some .int) [(0, 16, 19, 13)] :: ((wsL_resend_r1 ++ wsL_resend_r2) ++ wsX60 ++ wsX40 ++ wsX00 ++ wsX10 ++ wsX30 ++ (vx_atS RX6 194 "java/lang/IndexOutOfBoundsException" ["java/lang/RuntimeException", "java/lang/Exception"]).filter goodWord)
def wsL_question_r1 : List Cond := [Cond.classLink RL 13 "java/lang/IndexOutOfBoundsException", Cond.methodLink RL 21 yX6_question, Cond.instanceMethod yX6_question, Cond.selects RX6 yX6_question yX6_question, Cond.initialized RX6, Cond.code yX6_question cX6_question 3 (some .boolean), Cond.fieldLink RX6 11 "CommitCouncil" "managers" "[LCommitCouncil$Manager;", Cond.fieldLink RX6 59 "CommitCouncil$Manager" "up" "Z", Cond.sameField "CommitCouncil$Manager" "CommitCouncil$Member" "up" "Z", Cond.fieldLink RX6 37 "CommitCouncil" "mail" "LCommitCouncil$Mail;", Cond.methodLink RX6 48 yX6_checkOne, Cond.static yX6_checkOne, Cond.code yX6_checkOne cX6_checkOne 2 none, Cond.classLink RX6 190 "java/lang/IndexOutOfBoundsException", Cond.initialized "java/lang/IndexOutOfBoundsException", Cond.methodLink RX6 63 yX3_hasRoomFor, Cond.instanceMethod yX3_hasRoomFor, Cond.selects RX3 yX3_hasRoomFor yX3_hasRoomFor, Cond.initialized RX3, Cond.code yX3_hasRoomFor cX3_hasRoomFor 2 (some .boolean), Cond.fieldLink RX3 19 "CommitCouncil$Mail" "size" "I", Cond.methodLink RX6 74 yX3_send, Cond.instanceMethod yX3_send, Cond.selects RX3 yX3_send yX3_send]
def wsL_question_r2 : List Cond := [Cond.code yX3_send cX3_send 8 none, Cond.fieldLink RX3 11 "CommitCouncil$Mail" "width" "I", Cond.fieldLink RX3 15 "CommitCouncil$Mail" "cells" "[I", Cond.fieldLink RX3 22 "CommitCouncil$Mail" "sent" "I"]
def wsL_question : List Cond := .codeWith yL_question cL_question 4 (some .int) [(0, 16, 19, 13)] :: ((wsL_question_r1 ++ wsL_question_r2) ++ wsX60 ++ wsX00 ++ wsX10 ++ wsX40 ++ wsX30 ++ (vx_atS RX6 194 "java/lang/IndexOutOfBoundsException" ["java/lang/RuntimeException", "java/lang/Exception"]).filter goodWord)
def wsL_begin_r1 : List Cond := [Cond.classLink RL 13 "java/lang/IndexOutOfBoundsException", Cond.methodLink RL 24 yX6_begin, Cond.instanceMethod yX6_begin, Cond.selects RX6 yX6_begin yX6_begin, Cond.initialized RX6, Cond.code yX6_begin cX6_begin 6 (some .int), Cond.fieldLink RX6 27 "CommitCouncil" "leaders" "[LCommitCouncil$Leader;", Cond.fieldLink RX6 78 "CommitCouncil$Leader" "highest" "I", Cond.fieldLink RX6 18 "CommitCouncil" "acceptors" "[LCommitCouncil$Acceptor;", Cond.fieldLink RX6 85 "CommitCouncil$Leader" "decision" "I", Cond.fieldLink RX6 11 "CommitCouncil" "managers" "[LCommitCouncil$Manager;", Cond.fieldLink RX6 88 "CommitCouncil$Leader" "up" "Z", Cond.sameField "CommitCouncil$Leader" "CommitCouncil$Member" "up" "Z", Cond.fieldLink RX6 37 "CommitCouncil" "mail" "LCommitCouncil$Mail;", Cond.fieldLink RX6 92 "CommitCouncil" "begun" "I", Cond.methodLink RX6 48 yX6_checkOne, Cond.static yX6_checkOne, Cond.code yX6_checkOne cX6_checkOne 2 none, Cond.classLink RX6 190 "java/lang/IndexOutOfBoundsException", Cond.initialized "java/lang/IndexOutOfBoundsException", Cond.methodLink RX6 81 yX6_leastOwnAbove, Cond.static yX6_leastOwnAbove, Cond.code yX6_leastOwnAbove cX6_leastOwnAbove 3 (some .int), Cond.methodLink RX6 63 yX3_hasRoomFor]
def wsL_begin_r2 : List Cond := [Cond.instanceMethod yX3_hasRoomFor, Cond.selects RX3 yX3_hasRoomFor yX3_hasRoomFor, Cond.initialized RX3, Cond.code yX3_hasRoomFor cX3_hasRoomFor 2 (some .boolean), Cond.fieldLink RX3 19 "CommitCouncil$Mail" "size" "I", Cond.methodLink RX6 89 yX1_startAsking, Cond.instanceMethod yX1_startAsking, Cond.selects RX1 yX1_startAsking yX1_startAsking, Cond.initialized RX1, Cond.code yX1_startAsking cX1_startAsking 2 none, Cond.fieldLink RX1 25 "CommitCouncil$Leader" "ballot" "I", Cond.fieldLink RX1 28 "CommitCouncil$Leader" "highest" "I", Cond.fieldLink RX1 31 "CommitCouncil$Leader" "phase" "I", Cond.fieldLink RX1 34 "CommitCouncil$Leader" "toldBy" "I", Cond.fieldLink RX1 15 "CommitCouncil$Leader" "latest" "[I", Cond.methodLink RX1 37 yJ7_fill_53178, Cond.static yJ7_fill_53178, Cond.initialized RJ7, Cond.code yJ7_fill_53178 cJ7_fill_53178 4 none, Cond.methodLink RX6 74 yX3_send, Cond.instanceMethod yX3_send, Cond.selects RX3 yX3_send yX3_send, Cond.code yX3_send cX3_send 8 none, Cond.fieldLink RX3 11 "CommitCouncil$Mail" "width" "I"]
def wsL_begin_r3 : List Cond := [Cond.fieldLink RX3 15 "CommitCouncil$Mail" "cells" "[I", Cond.fieldLink RX3 22 "CommitCouncil$Mail" "sent" "I", Cond.methodLink RX6 95 yX6_sendDecisions, Cond.instanceMethod yX6_sendDecisions, Cond.selects RX6 yX6_sendDecisions yX6_sendDecisions, Cond.code yX6_sendDecisions cX6_sendDecisions 3 none]
def wsL_begin : List Cond := .codeWith yL_begin cL_begin 4 (some .int) [(0, 9, 12, 13)] :: ((wsL_begin_r1 ++ (wsL_begin_r2 ++ wsL_begin_r3)) ++ wsX60 ++ wsX10 ++ wsX00 ++ wsX40 ++ wsX30 ++ (vx_atS RX6 194 "java/lang/IndexOutOfBoundsException" ["java/lang/RuntimeException", "java/lang/Exception"]).filter goodWord)
def wsL_deliver_r1 : List Cond := [Cond.classLink RL 13 "java/lang/IndexOutOfBoundsException", Cond.methodLink RL 28 yX6_deliver, Cond.instanceMethod yX6_deliver, Cond.selects RX6 yX6_deliver yX6_deliver, Cond.initialized RX6, Cond.code yX6_deliver cX6_deliver 2 (some .int), Cond.fieldLink RX6 37 "CommitCouncil" "mail" "LCommitCouncil$Mail;", Cond.fieldLink RX6 98 "CommitCouncil$Mail" "size" "I", Cond.methodLink RX6 48 yX6_checkOne, Cond.static yX6_checkOne, Cond.code yX6_checkOne cX6_checkOne 2 none, Cond.classLink RX6 190 "java/lang/IndexOutOfBoundsException", Cond.initialized "java/lang/IndexOutOfBoundsException", Cond.methodLink RX6 101 yX6_bring, Cond.instanceMethod yX6_bring, Cond.selects RX6 yX6_bring yX6_bring, Cond.code yX6_bring cX6_bring 6 (some .int), Cond.fieldLink RX6 174 "CommitCouncil" "came" "I", Cond.methodLink RX6 128 yX3_part, Cond.instanceMethod yX3_part, Cond.selects RX3 yX3_part yX3_part, Cond.initialized RX3, Cond.code yX3_part cX3_part 3 (some .int), Cond.fieldLink RX3 19 "CommitCouncil$Mail" "size" "I"]
def wsL_deliver_r2 : List Cond := [Cond.fieldLink RX3 15 "CommitCouncil$Mail" "cells" "[I", Cond.fieldLink RX3 11 "CommitCouncil$Mail" "width" "I", Cond.methodLink RX6 202 yX6_isUp, Cond.instanceMethod yX6_isUp, Cond.selects RX6 yX6_isUp yX6_isUp, Cond.code yX6_isUp cX6_isUp 3 (some .boolean), Cond.fieldLink RX6 18 "CommitCouncil" "acceptors" "[LCommitCouncil$Acceptor;", Cond.fieldLink RX6 143 "CommitCouncil$Acceptor" "up" "Z", Cond.sameField "CommitCouncil$Acceptor" "CommitCouncil$Member" "up" "Z", Cond.fieldLink RX6 27 "CommitCouncil" "leaders" "[LCommitCouncil$Leader;", Cond.fieldLink RX6 88 "CommitCouncil$Leader" "up" "Z", Cond.sameField "CommitCouncil$Leader" "CommitCouncil$Member" "up" "Z", Cond.fieldLink RX6 11 "CommitCouncil" "managers" "[LCommitCouncil$Manager;", Cond.fieldLink RX6 59 "CommitCouncil$Manager" "up" "Z", Cond.sameField "CommitCouncil$Manager" "CommitCouncil$Member" "up" "Z", Cond.methodLink RX6 206 yX6_answersTo, Cond.instanceMethod yX6_answersTo, Cond.selects RX6 yX6_answersTo yX6_answersTo, Cond.code yX6_answersTo cX6_answersTo 9 (some .int), Cond.fieldLink RX6 140 "CommitCouncil$Acceptor" "promised" "I", Cond.fieldLink RX6 85 "CommitCouncil$Leader" "decision" "I", Cond.methodLink RX6 213 yX6_voteOf, Cond.static yX6_voteOf, Cond.code yX6_voteOf cX6_voteOf 2 (some .int)]
def wsL_deliver_r3 : List Cond := [Cond.methodLink RX6 216 yX1_decisionAfter, Cond.instanceMethod yX1_decisionAfter, Cond.selects RX1 yX1_decisionAfter yX1_decisionAfter, Cond.initialized RX1, Cond.code yX1_decisionAfter cX1_decisionAfter 6 (some .int), Cond.fieldLink RX1 49 "CommitCouncil$Leader" "decision" "I", Cond.fieldLink RX1 19 "CommitCouncil$Leader" "outcomes" "[I", Cond.methodLink RX1 52 yX1_outcomeAfter, Cond.instanceMethod yX1_outcomeAfter, Cond.selects RX1 yX1_outcomeAfter yX1_outcomeAfter, Cond.code yX1_outcomeAfter cX1_outcomeAfter 6 (some .int), Cond.fieldLink RX1 9 "CommitCouncil$Leader" "acceptorCount" "I", Cond.static yX6_ballotOf, Cond.code yX6_ballotOf cX6_ballotOf 1 (some .int), Cond.methodLink RX1 62 yX1_sightOf, Cond.instanceMethod yX1_sightOf, Cond.selects RX1 yX1_sightOf yX1_sightOf, Cond.code yX1_sightOf cX1_sightOf 4 (some .int), Cond.fieldLink RX1 22 "CommitCouncil$Leader" "sights" "[I", Cond.static yX6_wordOf, Cond.code yX6_wordOf cX6_wordOf 1 (some .int), Cond.methodLink RX6 219 yX1_keeps, Cond.instanceMethod yX1_keeps, Cond.selects RX1 yX1_keeps yX1_keeps]
def wsL_deliver_r4 : List Cond := [Cond.code yX1_keeps cX1_keeps 3 (some .boolean), Cond.fieldLink RX1 31 "CommitCouncil$Leader" "phase" "I", Cond.fieldLink RX1 25 "CommitCouncil$Leader" "ballot" "I", Cond.fieldLink RX1 34 "CommitCouncil$Leader" "toldBy" "I", Cond.methodLink RX6 222 yX1_oneMoreIsEnough, Cond.instanceMethod yX1_oneMoreIsEnough, Cond.selects RX1 yX1_oneMoreIsEnough yX1_oneMoreIsEnough, Cond.code yX1_oneMoreIsEnough cX1_oneMoreIsEnough 1 (some .boolean), Cond.methodLink RX1 43 yJ6_bitCount_0f7a4, Cond.static yJ6_bitCount_0f7a4, Cond.initialized RJ6, Cond.code yJ6_bitCount_0f7a4 cJ6_bitCount_0f7a4 1 (some .int), Cond.constant RJ6 265 (1431655765), Cond.constant RJ6 266 (858993459), Cond.constant RJ6 267 (252645135), Cond.methodLink RX6 63 yX3_hasRoomFor, Cond.instanceMethod yX3_hasRoomFor, Cond.selects RX3 yX3_hasRoomFor yX3_hasRoomFor, Cond.code yX3_hasRoomFor cX3_hasRoomFor 2 (some .boolean), Cond.methodLink RX6 210 yX6_take, Cond.instanceMethod yX6_take, Cond.selects RX6 yX6_take yX6_take, Cond.code yX6_take cX6_take 5 none, Cond.fieldLink RX6 55 "CommitCouncil$Manager" "state" "I"]
def wsL_deliver_r5 : List Cond := [Cond.methodLink RX6 226 yX6_takeVote, Cond.instanceMethod yX6_takeVote, Cond.selects RX6 yX6_takeVote yX6_takeVote, Cond.code yX6_takeVote cX6_takeVote 7 none, Cond.fieldLink RX6 44 "CommitCouncil" "ledger" "LCommitCouncil$Ledger;", Cond.methodLink RX6 242 yX0_accept, Cond.instanceMethod yX0_accept, Cond.selects RX0 yX0_accept yX0_accept, Cond.initialized RX0, Cond.code yX0_accept cX0_accept 4 none, Cond.fieldLink RX0 13 "CommitCouncil$Acceptor" "promised" "I", Cond.fieldLink RX0 7 "CommitCouncil$Acceptor" "accepted" "[I", Cond.methodLink RX6 245 yX2_enter, Cond.instanceMethod yX2_enter, Cond.selects RX2 yX2_enter yX2_enter, Cond.initialized RX2, Cond.code yX2_enter cX2_enter 7 none, Cond.fieldLink RX2 15 "CommitCouncil$Ledger" "words" "[I", Cond.fieldLink RX2 23 "CommitCouncil$Ledger" "takers" "[I", Cond.fieldLink RX2 9 "CommitCouncil$Ledger" "acceptorCount" "I", Cond.fieldLink RX2 19 "CommitCouncil$Ledger" "unlike" "[Z", Cond.methodLink RX2 26 yJ6_bitCount_0f7a4, Cond.methodLink RX6 74 yX3_send, Cond.instanceMethod yX3_send]
def wsL_deliver_r6 : List Cond := [Cond.selects RX3 yX3_send yX3_send, Cond.code yX3_send cX3_send 8 none, Cond.fieldLink RX3 22 "CommitCouncil$Mail" "sent" "I", Cond.methodLink RX6 229 yX6_takeVoted, Cond.instanceMethod yX6_takeVoted, Cond.selects RX6 yX6_takeVoted yX6_takeVoted, Cond.code yX6_takeVoted cX6_takeVoted 6 none, Cond.fieldLink RX6 78 "CommitCouncil$Leader" "highest" "I", Cond.methodLink RX6 256 Lib.Math.max.name, Cond.static Lib.Math.max.name, Cond.initialized "java/lang/Math", Cond.code Lib.Math.max.name Lib.Math.max.code 2 (some .int), Cond.methodLink RX6 259 yX1_see, Cond.instanceMethod yX1_see, Cond.selects RX1 yX1_see yX1_see, Cond.code yX1_see cX1_see 7 none, Cond.methodLink RX1 56 yX1_decisionAfter, Cond.methodLink RX6 95 yX6_sendDecisions, Cond.instanceMethod yX6_sendDecisions, Cond.selects RX6 yX6_sendDecisions yX6_sendDecisions, Cond.code yX6_sendDecisions cX6_sendDecisions 3 none, Cond.methodLink RX6 233 yX6_takeAsk, Cond.instanceMethod yX6_takeAsk, Cond.selects RX6 yX6_takeAsk yX6_takeAsk]
def wsL_deliver_r7 : List Cond := [Cond.code yX6_takeAsk cX6_takeAsk 4 none, Cond.fieldLink RX6 144 "CommitCouncil$Acceptor" "accepted" "[I", Cond.methodLink RX6 249 yX6_leaderOf, Cond.static yX6_leaderOf, Cond.code yX6_leaderOf cX6_leaderOf 1 (some .int), Cond.methodLink RX6 195 yJ9_floorMod_7cf53, Cond.static yJ9_floorMod_7cf53, Cond.initialized RJ9, Cond.code yJ9_floorMod_7cf53 cJ9_floorMod_7cf53 3 (some .int), Cond.methodLink RX6 252 yX3_attach, Cond.instanceMethod yX3_attach, Cond.selects RX3 yX3_attach yX3_attach, Cond.code yX3_attach cX3_attach 2 none, Cond.methodLink RX3 25 arraycopyName, Cond.native arraycopyName, Cond.static arraycopyName, Cond.initialized "java/lang/System", Cond.methodLink RX6 236 yX6_takeTold, Cond.instanceMethod yX6_takeTold, Cond.selects RX6 yX6_takeTold yX6_takeTold, Cond.code yX6_takeTold cX6_takeTold 7 none, Cond.fieldLink RX6 154 "CommitCouncil$Leader" "toldBy" "I", Cond.fieldLink RX6 262 "CommitCouncil$Leader" "latest" "[I", Cond.methodLink RX6 131 yX3_tidings]
def wsL_deliver_r8 : List Cond := [Cond.instanceMethod yX3_tidings, Cond.selects RX3 yX3_tidings yX3_tidings, Cond.code yX3_tidings cX3_tidings 3 (some .int), Cond.methodLink RX6 265 yX6_startVoting, Cond.instanceMethod yX6_startVoting, Cond.selects RX6 yX6_startVoting yX6_startVoting, Cond.code yX6_startVoting cX6_startVoting 4 none, Cond.fieldLink RX6 151 "CommitCouncil$Leader" "phase" "I", Cond.fieldLink RX6 148 "CommitCouncil$Leader" "ballot" "I", Cond.methodLink RX6 137 yX6_wordOf, Cond.methodLink RX6 70 yX6_sendVotes, Cond.instanceMethod yX6_sendVotes, Cond.selects RX6 yX6_sendVotes yX6_sendVotes, Cond.code yX6_sendVotes cX6_sendVotes 5 none, Cond.methodLink RX6 239 yX6_takeQuestion, Cond.instanceMethod yX6_takeQuestion, Cond.selects RX6 yX6_takeQuestion yX6_takeQuestion, Cond.code yX6_takeQuestion cX6_takeQuestion 3 none, Cond.methodLink RX6 105 yX3_remove, Cond.instanceMethod yX3_remove, Cond.selects RX3 yX3_remove yX3_remove, Cond.code yX3_remove cX3_remove 2 none]
def wsL_deliver : List Cond := .codeWith yL_deliver cL_deliver 4 (some .int) [(0, 9, 12, 13)] :: ((wsL_deliver_r1 ++ (wsL_deliver_r2 ++ (wsL_deliver_r3 ++ (wsL_deliver_r4 ++ (wsL_deliver_r5 ++ (wsL_deliver_r6 ++ (wsL_deliver_r7 ++ wsL_deliver_r8))))))) ++ wsX60 ++ wsX30 ++ wsX00 ++ wsX10 ++ wsX40 ++ wsX20 ++ (vx_atS RX6 194 "java/lang/IndexOutOfBoundsException" ["java/lang/RuntimeException", "java/lang/Exception"]).filter goodWord)
def wsL_drop_r1 : List Cond := [Cond.classLink RL 13 "java/lang/IndexOutOfBoundsException", Cond.methodLink RL 31 yX6_drop, Cond.instanceMethod yX6_drop, Cond.selects RX6 yX6_drop yX6_drop, Cond.initialized RX6, Cond.code yX6_drop cX6_drop 2 none, Cond.fieldLink RX6 37 "CommitCouncil" "mail" "LCommitCouncil$Mail;", Cond.fieldLink RX6 98 "CommitCouncil$Mail" "size" "I", Cond.methodLink RX6 48 yX6_checkOne, Cond.static yX6_checkOne, Cond.code yX6_checkOne cX6_checkOne 2 none, Cond.classLink RX6 190 "java/lang/IndexOutOfBoundsException", Cond.initialized "java/lang/IndexOutOfBoundsException", Cond.methodLink RX6 105 yX3_remove, Cond.instanceMethod yX3_remove, Cond.selects RX3 yX3_remove yX3_remove, Cond.initialized RX3, Cond.code yX3_remove cX3_remove 2 none, Cond.fieldLink RX3 19 "CommitCouncil$Mail" "size" "I", Cond.fieldLink RX3 15 "CommitCouncil$Mail" "cells" "[I", Cond.fieldLink RX3 11 "CommitCouncil$Mail" "width" "I", Cond.methodLink RX3 25 arraycopyName, Cond.native arraycopyName, Cond.static arraycopyName]
def wsL_drop_r2 : List Cond := [Cond.initialized "java/lang/System"]
def wsL_drop : List Cond := .codeWith yL_drop cL_drop 3 (some .int) [(0, 5, 8, 13)] :: ((wsL_drop_r1 ++ wsL_drop_r2) ++ wsX60 ++ wsX30 ++ (vx_atS RX6 194 "java/lang/IndexOutOfBoundsException" ["java/lang/RuntimeException", "java/lang/Exception"]).filter goodWord)
def wsL_copy_r1 : List Cond := [Cond.classLink RL 13 "java/lang/IndexOutOfBoundsException", Cond.methodLink RL 35 yX6_copy, Cond.instanceMethod yX6_copy, Cond.selects RX6 yX6_copy yX6_copy, Cond.initialized RX6, Cond.code yX6_copy cX6_copy 2 (some .int), Cond.fieldLink RX6 37 "CommitCouncil" "mail" "LCommitCouncil$Mail;", Cond.fieldLink RX6 98 "CommitCouncil$Mail" "size" "I", Cond.methodLink RX6 48 yX6_checkOne, Cond.static yX6_checkOne, Cond.code yX6_checkOne cX6_checkOne 2 none, Cond.classLink RX6 190 "java/lang/IndexOutOfBoundsException", Cond.initialized "java/lang/IndexOutOfBoundsException", Cond.methodLink RX6 63 yX3_hasRoomFor, Cond.instanceMethod yX3_hasRoomFor, Cond.selects RX3 yX3_hasRoomFor yX3_hasRoomFor, Cond.initialized RX3, Cond.code yX3_hasRoomFor cX3_hasRoomFor 2 (some .boolean), Cond.fieldLink RX3 19 "CommitCouncil$Mail" "size" "I", Cond.methodLink RX6 108 yX3_sendLike, Cond.instanceMethod yX3_sendLike, Cond.selects RX3 yX3_sendLike yX3_sendLike, Cond.code yX3_sendLike cX3_sendLike 2 none, Cond.fieldLink RX3 15 "CommitCouncil$Mail" "cells" "[I"]
def wsL_copy_r2 : List Cond := [Cond.fieldLink RX3 11 "CommitCouncil$Mail" "width" "I", Cond.methodLink RX3 25 arraycopyName, Cond.native arraycopyName, Cond.static arraycopyName, Cond.initialized "java/lang/System", Cond.fieldLink RX3 22 "CommitCouncil$Mail" "sent" "I"]
def wsL_copy : List Cond := .codeWith yL_copy cL_copy 4 (some .int) [(0, 9, 12, 13)] :: ((wsL_copy_r1 ++ wsL_copy_r2) ++ wsX60 ++ wsX30 ++ (vx_atS RX6 194 "java/lang/IndexOutOfBoundsException" ["java/lang/RuntimeException", "java/lang/Exception"]).filter goodWord)
def wsL_calm_r1 : List Cond := [Cond.classLink RL 41 "java/lang/IllegalArgumentException", Cond.methodLink RL 38 yX6_calm, Cond.instanceMethod yX6_calm, Cond.selects RX6 yX6_calm yX6_calm, Cond.initialized RX6, Cond.code yX6_calm cX6_calm 3 (some .int), Cond.classLink RX6 111 "java/lang/IllegalArgumentException", Cond.initialized "java/lang/IllegalArgumentException", Cond.fieldLink RX6 37 "CommitCouncil" "mail" "LCommitCouncil$Mail;", Cond.fieldLink RX6 98 "CommitCouncil$Mail" "size" "I", Cond.methodLink RX6 101 yX6_bring, Cond.instanceMethod yX6_bring, Cond.selects RX6 yX6_bring yX6_bring, Cond.code yX6_bring cX6_bring 6 (some .int), Cond.fieldLink RX6 174 "CommitCouncil" "came" "I", Cond.methodLink RX6 128 yX3_part, Cond.instanceMethod yX3_part, Cond.selects RX3 yX3_part yX3_part, Cond.initialized RX3, Cond.code yX3_part cX3_part 3 (some .int), Cond.fieldLink RX3 19 "CommitCouncil$Mail" "size" "I", Cond.fieldLink RX3 15 "CommitCouncil$Mail" "cells" "[I", Cond.fieldLink RX3 11 "CommitCouncil$Mail" "width" "I", Cond.methodLink RX6 202 yX6_isUp]
def wsL_calm_r2 : List Cond := [Cond.instanceMethod yX6_isUp, Cond.selects RX6 yX6_isUp yX6_isUp, Cond.code yX6_isUp cX6_isUp 3 (some .boolean), Cond.fieldLink RX6 18 "CommitCouncil" "acceptors" "[LCommitCouncil$Acceptor;", Cond.fieldLink RX6 143 "CommitCouncil$Acceptor" "up" "Z", Cond.sameField "CommitCouncil$Acceptor" "CommitCouncil$Member" "up" "Z", Cond.fieldLink RX6 27 "CommitCouncil" "leaders" "[LCommitCouncil$Leader;", Cond.fieldLink RX6 88 "CommitCouncil$Leader" "up" "Z", Cond.sameField "CommitCouncil$Leader" "CommitCouncil$Member" "up" "Z", Cond.fieldLink RX6 11 "CommitCouncil" "managers" "[LCommitCouncil$Manager;", Cond.fieldLink RX6 59 "CommitCouncil$Manager" "up" "Z", Cond.sameField "CommitCouncil$Manager" "CommitCouncil$Member" "up" "Z", Cond.methodLink RX6 206 yX6_answersTo, Cond.instanceMethod yX6_answersTo, Cond.selects RX6 yX6_answersTo yX6_answersTo, Cond.code yX6_answersTo cX6_answersTo 9 (some .int), Cond.fieldLink RX6 140 "CommitCouncil$Acceptor" "promised" "I", Cond.fieldLink RX6 85 "CommitCouncil$Leader" "decision" "I", Cond.methodLink RX6 213 yX6_voteOf, Cond.static yX6_voteOf, Cond.code yX6_voteOf cX6_voteOf 2 (some .int), Cond.methodLink RX6 216 yX1_decisionAfter, Cond.instanceMethod yX1_decisionAfter, Cond.selects RX1 yX1_decisionAfter yX1_decisionAfter]
def wsL_calm_r3 : List Cond := [Cond.initialized RX1, Cond.code yX1_decisionAfter cX1_decisionAfter 6 (some .int), Cond.fieldLink RX1 49 "CommitCouncil$Leader" "decision" "I", Cond.fieldLink RX1 19 "CommitCouncil$Leader" "outcomes" "[I", Cond.methodLink RX1 52 yX1_outcomeAfter, Cond.instanceMethod yX1_outcomeAfter, Cond.selects RX1 yX1_outcomeAfter yX1_outcomeAfter, Cond.code yX1_outcomeAfter cX1_outcomeAfter 6 (some .int), Cond.fieldLink RX1 9 "CommitCouncil$Leader" "acceptorCount" "I", Cond.static yX6_ballotOf, Cond.code yX6_ballotOf cX6_ballotOf 1 (some .int), Cond.methodLink RX1 62 yX1_sightOf, Cond.instanceMethod yX1_sightOf, Cond.selects RX1 yX1_sightOf yX1_sightOf, Cond.code yX1_sightOf cX1_sightOf 4 (some .int), Cond.fieldLink RX1 22 "CommitCouncil$Leader" "sights" "[I", Cond.static yX6_wordOf, Cond.code yX6_wordOf cX6_wordOf 1 (some .int), Cond.methodLink RX6 219 yX1_keeps, Cond.instanceMethod yX1_keeps, Cond.selects RX1 yX1_keeps yX1_keeps, Cond.code yX1_keeps cX1_keeps 3 (some .boolean), Cond.fieldLink RX1 31 "CommitCouncil$Leader" "phase" "I", Cond.fieldLink RX1 25 "CommitCouncil$Leader" "ballot" "I"]
def wsL_calm_r4 : List Cond := [Cond.fieldLink RX1 34 "CommitCouncil$Leader" "toldBy" "I", Cond.methodLink RX6 222 yX1_oneMoreIsEnough, Cond.instanceMethod yX1_oneMoreIsEnough, Cond.selects RX1 yX1_oneMoreIsEnough yX1_oneMoreIsEnough, Cond.code yX1_oneMoreIsEnough cX1_oneMoreIsEnough 1 (some .boolean), Cond.methodLink RX1 43 yJ6_bitCount_0f7a4, Cond.static yJ6_bitCount_0f7a4, Cond.initialized RJ6, Cond.code yJ6_bitCount_0f7a4 cJ6_bitCount_0f7a4 1 (some .int), Cond.constant RJ6 265 (1431655765), Cond.constant RJ6 266 (858993459), Cond.constant RJ6 267 (252645135), Cond.methodLink RX6 63 yX3_hasRoomFor, Cond.instanceMethod yX3_hasRoomFor, Cond.selects RX3 yX3_hasRoomFor yX3_hasRoomFor, Cond.code yX3_hasRoomFor cX3_hasRoomFor 2 (some .boolean), Cond.methodLink RX6 210 yX6_take, Cond.instanceMethod yX6_take, Cond.selects RX6 yX6_take yX6_take, Cond.code yX6_take cX6_take 5 none, Cond.fieldLink RX6 55 "CommitCouncil$Manager" "state" "I", Cond.methodLink RX6 226 yX6_takeVote, Cond.instanceMethod yX6_takeVote, Cond.selects RX6 yX6_takeVote yX6_takeVote]
def wsL_calm_r5 : List Cond := [Cond.code yX6_takeVote cX6_takeVote 7 none, Cond.fieldLink RX6 44 "CommitCouncil" "ledger" "LCommitCouncil$Ledger;", Cond.methodLink RX6 242 yX0_accept, Cond.instanceMethod yX0_accept, Cond.selects RX0 yX0_accept yX0_accept, Cond.initialized RX0, Cond.code yX0_accept cX0_accept 4 none, Cond.fieldLink RX0 13 "CommitCouncil$Acceptor" "promised" "I", Cond.fieldLink RX0 7 "CommitCouncil$Acceptor" "accepted" "[I", Cond.methodLink RX6 245 yX2_enter, Cond.instanceMethod yX2_enter, Cond.selects RX2 yX2_enter yX2_enter, Cond.initialized RX2, Cond.code yX2_enter cX2_enter 7 none, Cond.fieldLink RX2 15 "CommitCouncil$Ledger" "words" "[I", Cond.fieldLink RX2 23 "CommitCouncil$Ledger" "takers" "[I", Cond.fieldLink RX2 9 "CommitCouncil$Ledger" "acceptorCount" "I", Cond.fieldLink RX2 19 "CommitCouncil$Ledger" "unlike" "[Z", Cond.methodLink RX2 26 yJ6_bitCount_0f7a4, Cond.methodLink RX6 74 yX3_send, Cond.instanceMethod yX3_send, Cond.selects RX3 yX3_send yX3_send, Cond.code yX3_send cX3_send 8 none, Cond.fieldLink RX3 22 "CommitCouncil$Mail" "sent" "I"]
def wsL_calm_r6 : List Cond := [Cond.methodLink RX6 229 yX6_takeVoted, Cond.instanceMethod yX6_takeVoted, Cond.selects RX6 yX6_takeVoted yX6_takeVoted, Cond.code yX6_takeVoted cX6_takeVoted 6 none, Cond.fieldLink RX6 78 "CommitCouncil$Leader" "highest" "I", Cond.methodLink RX6 256 Lib.Math.max.name, Cond.static Lib.Math.max.name, Cond.initialized "java/lang/Math", Cond.code Lib.Math.max.name Lib.Math.max.code 2 (some .int), Cond.methodLink RX6 259 yX1_see, Cond.instanceMethod yX1_see, Cond.selects RX1 yX1_see yX1_see, Cond.code yX1_see cX1_see 7 none, Cond.methodLink RX1 56 yX1_decisionAfter, Cond.methodLink RX6 95 yX6_sendDecisions, Cond.instanceMethod yX6_sendDecisions, Cond.selects RX6 yX6_sendDecisions yX6_sendDecisions, Cond.code yX6_sendDecisions cX6_sendDecisions 3 none, Cond.methodLink RX6 233 yX6_takeAsk, Cond.instanceMethod yX6_takeAsk, Cond.selects RX6 yX6_takeAsk yX6_takeAsk, Cond.code yX6_takeAsk cX6_takeAsk 4 none, Cond.fieldLink RX6 144 "CommitCouncil$Acceptor" "accepted" "[I", Cond.methodLink RX6 249 yX6_leaderOf]
def wsL_calm_r7 : List Cond := [Cond.static yX6_leaderOf, Cond.code yX6_leaderOf cX6_leaderOf 1 (some .int), Cond.methodLink RX6 195 yJ9_floorMod_7cf53, Cond.static yJ9_floorMod_7cf53, Cond.initialized RJ9, Cond.code yJ9_floorMod_7cf53 cJ9_floorMod_7cf53 3 (some .int), Cond.methodLink RX6 252 yX3_attach, Cond.instanceMethod yX3_attach, Cond.selects RX3 yX3_attach yX3_attach, Cond.code yX3_attach cX3_attach 2 none, Cond.methodLink RX3 25 arraycopyName, Cond.native arraycopyName, Cond.static arraycopyName, Cond.initialized "java/lang/System", Cond.methodLink RX6 236 yX6_takeTold, Cond.instanceMethod yX6_takeTold, Cond.selects RX6 yX6_takeTold yX6_takeTold, Cond.code yX6_takeTold cX6_takeTold 7 none, Cond.fieldLink RX6 154 "CommitCouncil$Leader" "toldBy" "I", Cond.fieldLink RX6 262 "CommitCouncil$Leader" "latest" "[I", Cond.methodLink RX6 131 yX3_tidings, Cond.instanceMethod yX3_tidings, Cond.selects RX3 yX3_tidings yX3_tidings, Cond.code yX3_tidings cX3_tidings 3 (some .int)]
def wsL_calm_r8 : List Cond := [Cond.methodLink RX6 265 yX6_startVoting, Cond.instanceMethod yX6_startVoting, Cond.selects RX6 yX6_startVoting yX6_startVoting, Cond.code yX6_startVoting cX6_startVoting 4 none, Cond.fieldLink RX6 151 "CommitCouncil$Leader" "phase" "I", Cond.fieldLink RX6 148 "CommitCouncil$Leader" "ballot" "I", Cond.methodLink RX6 137 yX6_wordOf, Cond.methodLink RX6 70 yX6_sendVotes, Cond.instanceMethod yX6_sendVotes, Cond.selects RX6 yX6_sendVotes yX6_sendVotes, Cond.code yX6_sendVotes cX6_sendVotes 5 none, Cond.methodLink RX6 239 yX6_takeQuestion, Cond.instanceMethod yX6_takeQuestion, Cond.selects RX6 yX6_takeQuestion yX6_takeQuestion, Cond.code yX6_takeQuestion cX6_takeQuestion 3 none, Cond.methodLink RX6 105 yX3_remove, Cond.instanceMethod yX3_remove, Cond.selects RX3 yX3_remove yX3_remove, Cond.code yX3_remove cX3_remove 2 none]
def wsL_calm : List Cond := .codeWith yL_calm cL_calm 4 (some .int) [(0, 9, 12, 41)] :: ((wsL_calm_r1 ++ (wsL_calm_r2 ++ (wsL_calm_r3 ++ (wsL_calm_r4 ++ (wsL_calm_r5 ++ (wsL_calm_r6 ++ (wsL_calm_r7 ++ wsL_calm_r8))))))) ++ wsX60 ++ wsX30 ++ wsX00 ++ wsX10 ++ wsX40 ++ wsX20 ++ (vx_atS RX6 115 "java/lang/IllegalArgumentException" ["java/lang/RuntimeException", "java/lang/Exception"]).filter goodWord)
def wsL_crash_r1 : List Cond := [Cond.classLink RL 41 "java/lang/IllegalArgumentException", Cond.classLink RL 13 "java/lang/IndexOutOfBoundsException", Cond.methodLink RL 43 yX6_crash, Cond.instanceMethod yX6_crash, Cond.selects RX6 yX6_crash yX6_crash, Cond.initialized RX6, Cond.code yX6_crash cX6_crash 4 (some .boolean), Cond.fieldLink RX6 122 "CommitCouncil$Member" "up" "Z", Cond.methodLink RX6 118 yX6_memberOf, Cond.instanceMethod yX6_memberOf, Cond.selects RX6 yX6_memberOf yX6_memberOf, Cond.code yX6_memberOf cX6_memberOf 3 (some (.object "CommitCouncil$Member")), Cond.classLink RX6 111 "java/lang/IllegalArgumentException", Cond.initialized "java/lang/IllegalArgumentException", Cond.fieldLink RX6 11 "CommitCouncil" "managers" "[LCommitCouncil$Manager;", Cond.fieldLink RX6 18 "CommitCouncil" "acceptors" "[LCommitCouncil$Acceptor;", Cond.fieldLink RX6 27 "CommitCouncil" "leaders" "[LCommitCouncil$Leader;", Cond.methodLink RX6 48 yX6_checkOne, Cond.static yX6_checkOne, Cond.code yX6_checkOne cX6_checkOne 2 none, Cond.classLink RX6 190 "java/lang/IndexOutOfBoundsException", Cond.initialized "java/lang/IndexOutOfBoundsException", Cond.methodLink RX6 125 ⟨"CommitCouncil$Member", "forget", "()V"⟩, Cond.sameMethod "CommitCouncil$Member" "CommitCouncil$Member" "forget" "()V"]
def wsL_crash_r2 : List Cond := [Cond.selects RX0 ⟨"CommitCouncil$Member", "forget", "()V"⟩ yX5_forget, Cond.instanceMethod yX5_forget, Cond.initialized RX5, Cond.code yX5_forget cX5_forget 1 none, Cond.instanceMethod ⟨"CommitCouncil$Member", "forget", "()V"⟩, Cond.selects RX1 ⟨"CommitCouncil$Member", "forget", "()V"⟩ yX1_forget, Cond.instanceMethod yX1_forget, Cond.initialized RX1, Cond.code yX1_forget cX1_forget 1 none, Cond.fieldLink RX1 31 "CommitCouncil$Leader" "phase" "I", Cond.fieldLink RX1 49 "CommitCouncil$Leader" "decision" "I", Cond.fieldLink RX1 34 "CommitCouncil$Leader" "toldBy" "I", Cond.fieldLink RX1 15 "CommitCouncil$Leader" "latest" "[I", Cond.fieldLink RX1 19 "CommitCouncil$Leader" "outcomes" "[I", Cond.fieldLink RX1 22 "CommitCouncil$Leader" "sights" "[I", Cond.methodLink RX1 37 yJ7_fill_53178, Cond.static yJ7_fill_53178, Cond.initialized RJ7, Cond.code yJ7_fill_53178 cJ7_fill_53178 4 none, Cond.selects RX4 ⟨"CommitCouncil$Member", "forget", "()V"⟩ yX5_forget]
def wsL_crash : List Cond := .codeWith yL_crash cL_crash 5 (some .int) [(0, 17, 20, 41), (0, 17, 24, 13)] :: ((wsL_crash_r1 ++ wsL_crash_r2) ++ wsX00 ++ wsX10 ++ wsX40 ++ wsX60 ++ (vx_atS RX6 115 "java/lang/IllegalArgumentException" ["java/lang/RuntimeException", "java/lang/Exception"]).filter goodWord ++ (vx_atS RX6 194 "java/lang/IndexOutOfBoundsException" ["java/lang/RuntimeException", "java/lang/Exception"]).filter goodWord)
def wsL_recover : List Cond := .codeWith yL_recover cL_recover 5 (some .int) [(0, 17, 20, 41), (0, 17, 24, 13)] :: ([.classLink RL 41 "java/lang/IllegalArgumentException", .classLink RL 13 "java/lang/IndexOutOfBoundsException", .methodLink RL 47 yX6_recover, .instanceMethod yX6_recover, .selects RX6 yX6_recover yX6_recover, .initialized RX6, .code yX6_recover cX6_recover 5 (some .boolean), .fieldLink RX6 122 "CommitCouncil$Member" "up" "Z", .methodLink RX6 118 yX6_memberOf, .instanceMethod yX6_memberOf, .selects RX6 yX6_memberOf yX6_memberOf, .code yX6_memberOf cX6_memberOf 3 (some (.object "CommitCouncil$Member")), .classLink RX6 111 "java/lang/IllegalArgumentException", .initialized "java/lang/IllegalArgumentException", .fieldLink RX6 11 "CommitCouncil" "managers" "[LCommitCouncil$Manager;", .fieldLink RX6 18 "CommitCouncil" "acceptors" "[LCommitCouncil$Acceptor;", .fieldLink RX6 27 "CommitCouncil" "leaders" "[LCommitCouncil$Leader;", .methodLink RX6 48 yX6_checkOne, .static yX6_checkOne, .code yX6_checkOne cX6_checkOne 2 none, .classLink RX6 190 "java/lang/IndexOutOfBoundsException", .initialized "java/lang/IndexOutOfBoundsException"] ++ wsX00 ++ wsX10 ++ wsX40 ++ wsX60 ++ (vx_atS RX6 115 "java/lang/IllegalArgumentException" ["java/lang/RuntimeException", "java/lang/Exception"]).filter goodWord ++ (vx_atS RX6 194 "java/lang/IndexOutOfBoundsException" ["java/lang/RuntimeException", "java/lang/Exception"]).filter goodWord)
def wsL_message : List Cond := .codeWith yL_message cL_message 5 (some .int) [(0, 10, 13, 13)] :: ([.classLink RL 13 "java/lang/IndexOutOfBoundsException", .methodLink RL 50 yX6_message, .instanceMethod yX6_message, .selects RX6 yX6_message yX6_message, .initialized RX6, .code yX6_message cX6_message 3 (some .int), .fieldLink RX6 37 "CommitCouncil" "mail" "LCommitCouncil$Mail;", .fieldLink RX6 98 "CommitCouncil$Mail" "size" "I", .methodLink RX6 48 yX6_checkOne, .static yX6_checkOne, .code yX6_checkOne cX6_checkOne 2 none, .classLink RX6 190 "java/lang/IndexOutOfBoundsException", .initialized "java/lang/IndexOutOfBoundsException", .methodLink RX6 128 yX3_part, .instanceMethod yX3_part, .selects RX3 yX3_part yX3_part, .initialized RX3, .code yX3_part cX3_part 3 (some .int), .fieldLink RX3 19 "CommitCouncil$Mail" "size" "I", .fieldLink RX3 15 "CommitCouncil$Mail" "cells" "[I", .fieldLink RX3 11 "CommitCouncil$Mail" "width" "I"] ++ wsX60 ++ wsX30 ++ (vx_atS RX6 194 "java/lang/IndexOutOfBoundsException" ["java/lang/RuntimeException", "java/lang/Exception"]).filter goodWord)
def wsL_told_r1 : List Cond := [Cond.classLink RL 13 "java/lang/IndexOutOfBoundsException", Cond.methodLink RL 54 yX6_told, Cond.instanceMethod yX6_told, Cond.selects RX6 yX6_told yX6_told, Cond.initialized RX6, Cond.code yX6_told cX6_told 5 (some .int), Cond.fieldLink RX6 37 "CommitCouncil" "mail" "LCommitCouncil$Mail;", Cond.fieldLink RX6 98 "CommitCouncil$Mail" "size" "I", Cond.fieldLink RX6 11 "CommitCouncil" "managers" "[LCommitCouncil$Manager;", Cond.methodLink RX6 48 yX6_checkOne, Cond.static yX6_checkOne, Cond.code yX6_checkOne cX6_checkOne 2 none, Cond.classLink RX6 190 "java/lang/IndexOutOfBoundsException", Cond.initialized "java/lang/IndexOutOfBoundsException", Cond.methodLink RX6 128 yX3_part, Cond.instanceMethod yX3_part, Cond.selects RX3 yX3_part yX3_part, Cond.initialized RX3, Cond.code yX3_part cX3_part 3 (some .int), Cond.fieldLink RX3 19 "CommitCouncil$Mail" "size" "I", Cond.fieldLink RX3 15 "CommitCouncil$Mail" "cells" "[I", Cond.fieldLink RX3 11 "CommitCouncil$Mail" "width" "I", Cond.methodLink RX6 131 yX3_tidings, Cond.instanceMethod yX3_tidings]
def wsL_told_r2 : List Cond := [Cond.selects RX3 yX3_tidings yX3_tidings, Cond.code yX3_tidings cX3_tidings 3 (some .int), Cond.methodLink RX6 134 yX6_ballotOf, Cond.static yX6_ballotOf, Cond.code yX6_ballotOf cX6_ballotOf 1 (some .int), Cond.methodLink RX6 137 yX6_wordOf, Cond.static yX6_wordOf, Cond.code yX6_wordOf cX6_wordOf 1 (some .int)]
def wsL_told : List Cond := .codeWith yL_told cL_told 6 (some .int) [(0, 12, 15, 13)] :: ((wsL_told_r1 ++ wsL_told_r2) ++ wsX60 ++ wsX30 ++ (vx_atS RX6 194 "java/lang/IndexOutOfBoundsException" ["java/lang/RuntimeException", "java/lang/Exception"]).filter goodWord)
def wsL_manager : List Cond := .codeWith yL_manager cL_manager 5 (some .int) [(0, 10, 13, 13)] :: ([.classLink RL 13 "java/lang/IndexOutOfBoundsException", .methodLink RL 58 yX6_manager, .instanceMethod yX6_manager, .selects RX6 yX6_manager yX6_manager, .initialized RX6, .code yX6_manager cX6_manager 4 (some .int), .fieldLink RX6 11 "CommitCouncil" "managers" "[LCommitCouncil$Manager;", .fieldLink RX6 55 "CommitCouncil$Manager" "state" "I", .fieldLink RX6 59 "CommitCouncil$Manager" "up" "Z", .sameField "CommitCouncil$Manager" "CommitCouncil$Member" "up" "Z", .methodLink RX6 48 yX6_checkOne, .static yX6_checkOne, .code yX6_checkOne cX6_checkOne 2 none, .classLink RX6 190 "java/lang/IndexOutOfBoundsException", .initialized "java/lang/IndexOutOfBoundsException"] ++ wsX60 ++ wsX40 ++ wsX00 ++ wsX10 ++ (vx_atS RX6 194 "java/lang/IndexOutOfBoundsException" ["java/lang/RuntimeException", "java/lang/Exception"]).filter goodWord)
def wsL_acceptor : List Cond := .codeWith yL_acceptor cL_acceptor 6 (some .int) [(0, 12, 15, 13)] :: ([.classLink RL 13 "java/lang/IndexOutOfBoundsException", .methodLink RL 61 yX6_acceptor, .instanceMethod yX6_acceptor, .selects RX6 yX6_acceptor yX6_acceptor, .initialized RX6, .code yX6_acceptor cX6_acceptor 5 (some .int), .fieldLink RX6 18 "CommitCouncil" "acceptors" "[LCommitCouncil$Acceptor;", .fieldLink RX6 11 "CommitCouncil" "managers" "[LCommitCouncil$Manager;", .fieldLink RX6 140 "CommitCouncil$Acceptor" "promised" "I", .fieldLink RX6 143 "CommitCouncil$Acceptor" "up" "Z", .sameField "CommitCouncil$Acceptor" "CommitCouncil$Member" "up" "Z", .fieldLink RX6 144 "CommitCouncil$Acceptor" "accepted" "[I", .methodLink RX6 48 yX6_checkOne, .static yX6_checkOne, .code yX6_checkOne cX6_checkOne 2 none, .classLink RX6 190 "java/lang/IndexOutOfBoundsException", .initialized "java/lang/IndexOutOfBoundsException", .methodLink RX6 134 yX6_ballotOf, .static yX6_ballotOf, .code yX6_ballotOf cX6_ballotOf 1 (some .int), .methodLink RX6 137 yX6_wordOf, .static yX6_wordOf, .code yX6_wordOf cX6_wordOf 1 (some .int)] ++ wsX60 ++ wsX00 ++ wsX10 ++ wsX40 ++ (vx_atS RX6 194 "java/lang/IndexOutOfBoundsException" ["java/lang/RuntimeException", "java/lang/Exception"]).filter goodWord)
def wsL_leader_r1 : List Cond := [Cond.classLink RL 13 "java/lang/IndexOutOfBoundsException", Cond.methodLink RL 65 yX6_leader, Cond.instanceMethod yX6_leader, Cond.selects RX6 yX6_leader yX6_leader, Cond.initialized RX6, Cond.code yX6_leader cX6_leader 4 (some .int), Cond.fieldLink RX6 27 "CommitCouncil" "leaders" "[LCommitCouncil$Leader;", Cond.fieldLink RX6 148 "CommitCouncil$Leader" "ballot" "I", Cond.fieldLink RX6 151 "CommitCouncil$Leader" "phase" "I", Cond.fieldLink RX6 78 "CommitCouncil$Leader" "highest" "I", Cond.fieldLink RX6 85 "CommitCouncil$Leader" "decision" "I", Cond.fieldLink RX6 88 "CommitCouncil$Leader" "up" "Z", Cond.sameField "CommitCouncil$Leader" "CommitCouncil$Member" "up" "Z", Cond.fieldLink RX6 154 "CommitCouncil$Leader" "toldBy" "I", Cond.methodLink RX6 48 yX6_checkOne, Cond.static yX6_checkOne, Cond.code yX6_checkOne cX6_checkOne 2 none, Cond.classLink RX6 190 "java/lang/IndexOutOfBoundsException", Cond.initialized "java/lang/IndexOutOfBoundsException", Cond.methodLink RX6 157 yJ6_bitCount_0f7a4, Cond.static yJ6_bitCount_0f7a4, Cond.initialized RJ6, Cond.code yJ6_bitCount_0f7a4 cJ6_bitCount_0f7a4 1 (some .int), Cond.constant RJ6 265 (1431655765)]
def wsL_leader_r2 : List Cond := [Cond.constant RJ6 266 (858993459), Cond.constant RJ6 267 (252645135)]
def wsL_leader : List Cond := .codeWith yL_leader cL_leader 5 (some .int) [(0, 10, 13, 13)] :: ((wsL_leader_r1 ++ wsL_leader_r2) ++ wsX60 ++ wsX10 ++ wsX00 ++ wsX40 ++ (vx_atS RX6 194 "java/lang/IndexOutOfBoundsException" ["java/lang/RuntimeException", "java/lang/Exception"]).filter goodWord)
def wsL_outcome : List Cond := .codeWith yL_outcome cL_outcome 5 (some .int) [(0, 10, 13, 13)] :: ([.classLink RL 13 "java/lang/IndexOutOfBoundsException", .methodLink RL 68 yX6_outcome, .instanceMethod yX6_outcome, .selects RX6 yX6_outcome yX6_outcome, .initialized RX6, .code yX6_outcome cX6_outcome 3 (some .int), .fieldLink RX6 11 "CommitCouncil" "managers" "[LCommitCouncil$Manager;", .fieldLink RX6 27 "CommitCouncil" "leaders" "[LCommitCouncil$Leader;", .fieldLink RX6 162 "CommitCouncil$Leader" "outcomes" "[I", .methodLink RX6 48 yX6_checkOne, .static yX6_checkOne, .code yX6_checkOne cX6_checkOne 2 none, .classLink RX6 190 "java/lang/IndexOutOfBoundsException", .initialized "java/lang/IndexOutOfBoundsException"] ++ wsX60 ++ wsX10 ++ (vx_atS RX6 194 "java/lang/IndexOutOfBoundsException" ["java/lang/RuntimeException", "java/lang/Exception"]).filter goodWord)
def wsL_seen : List Cond := .codeWith yL_seen cL_seen 6 (some .int) [(0, 12, 15, 13)] :: ([.classLink RL 13 "java/lang/IndexOutOfBoundsException", .methodLink RL 71 yX6_seen, .instanceMethod yX6_seen, .selects RX6 yX6_seen yX6_seen, .initialized RX6, .code yX6_seen cX6_seen 4 (some .int), .fieldLink RX6 11 "CommitCouncil" "managers" "[LCommitCouncil$Manager;", .fieldLink RX6 18 "CommitCouncil" "acceptors" "[LCommitCouncil$Acceptor;", .fieldLink RX6 27 "CommitCouncil" "leaders" "[LCommitCouncil$Leader;", .methodLink RX6 48 yX6_checkOne, .static yX6_checkOne, .code yX6_checkOne cX6_checkOne 2 none, .classLink RX6 190 "java/lang/IndexOutOfBoundsException", .initialized "java/lang/IndexOutOfBoundsException", .methodLink RX6 165 yX1_sightOf, .instanceMethod yX1_sightOf, .selects RX1 yX1_sightOf yX1_sightOf, .initialized RX1, .code yX1_sightOf cX1_sightOf 4 (some .int), .fieldLink RX1 9 "CommitCouncil$Leader" "acceptorCount" "I", .fieldLink RX1 22 "CommitCouncil$Leader" "sights" "[I", .methodLink RX6 134 yX6_ballotOf, .static yX6_ballotOf, .code yX6_ballotOf cX6_ballotOf 1 (some .int)] ++ wsX60 ++ wsX10 ++ (vx_atS RX6 194 "java/lang/IndexOutOfBoundsException" ["java/lang/RuntimeException", "java/lang/Exception"]).filter goodWord)
def wsL_chosen : List Cond := .codeWith yL_chosen cL_chosen 4 (some .int) [(0, 9, 12, 13)] :: ([.classLink RL 13 "java/lang/IndexOutOfBoundsException", .methodLink RL 74 yX6_chosen, .instanceMethod yX6_chosen, .selects RX6 yX6_chosen yX6_chosen, .initialized RX6, .code yX6_chosen cX6_chosen 2 (some .int), .fieldLink RX6 11 "CommitCouncil" "managers" "[LCommitCouncil$Manager;", .fieldLink RX6 44 "CommitCouncil" "ledger" "LCommitCouncil$Ledger;", .fieldLink RX6 168 "CommitCouncil$Ledger" "words" "[I", .methodLink RX6 48 yX6_checkOne, .static yX6_checkOne, .code yX6_checkOne cX6_checkOne 2 none, .classLink RX6 190 "java/lang/IndexOutOfBoundsException", .initialized "java/lang/IndexOutOfBoundsException"] ++ wsX60 ++ wsX20 ++ (vx_atS RX6 194 "java/lang/IndexOutOfBoundsException" ["java/lang/RuntimeException", "java/lang/Exception"]).filter goodWord)
def wsL_law0_r1 : List Cond := [Cond.classLink RL 8 RX6, Cond.instantiable RX6 7, Cond.initialized RX6, Cond.classLink RL 86 RX7, Cond.instantiable RX7 26, Cond.initialized RX7, Cond.arrayClass .long, Cond.methodLink RL 77 yL_cell, Cond.static yL_cell, Cond.initialized RL, Cond.code yL_cell cL_cell 2 (some .int), Cond.methodLink RL 83 yX6_init, Cond.instanceMethod yX6_init, Cond.code yX6_init cX6_init 6 none, Cond.methodLink RX6 1 objectInit, Cond.instanceMethod objectInit, Cond.code objectInit ⟨#[0xb1]⟩ 1 none, Cond.classLink RX6 9 RX4, Cond.fieldLink RX6 11 "CommitCouncil" "managers" "[LCommitCouncil$Manager;", Cond.instantiable RX4 3, Cond.initialized RX4, Cond.classLink RX6 16 RX0, Cond.fieldLink RX6 18 "CommitCouncil" "acceptors" "[LCommitCouncil$Acceptor;", Cond.instantiable RX0 3]
def wsL_law0_r2 : List Cond := [Cond.initialized RX0, Cond.classLink RX6 25 RX1, Cond.fieldLink RX6 27 "CommitCouncil" "leaders" "[LCommitCouncil$Leader;", Cond.instantiable RX1 10, Cond.initialized RX1, Cond.classLink RX6 34 RX3, Cond.instantiable RX3 4, Cond.initialized RX3, Cond.fieldLink RX6 37 "CommitCouncil" "mail" "LCommitCouncil$Mail;", Cond.classLink RX6 41 RX2, Cond.instantiable RX2 4, Cond.initialized RX2, Cond.fieldLink RX6 44 "CommitCouncil" "ledger" "LCommitCouncil$Ledger;", Cond.instanceMethod yX4_init, Cond.code yX4_init cX4_init 1 none, Cond.fieldLink RX4 9 "CommitCouncil$Manager" "state" "I", Cond.instanceMethod yX5_init, Cond.initialized RX5, Cond.code yX5_init cX5_init 1 none, Cond.methodLink RX5 1 objectInit, Cond.fieldLink RX5 7 "CommitCouncil$Member" "up" "Z", Cond.methodLink RX6 22 yX0_init, Cond.instanceMethod yX0_init, Cond.code yX0_init cX0_init 2 none]
def wsL_law0_r3 : List Cond := [Cond.arrayClass .int, Cond.fieldLink RX0 7 "CommitCouncil$Acceptor" "accepted" "[I", Cond.methodLink RX6 31 yX1_init, Cond.instanceMethod yX1_init, Cond.code yX1_init cX1_init 3 none, Cond.fieldLink RX1 9 "CommitCouncil$Leader" "acceptorCount" "I", Cond.fieldLink RX1 15 "CommitCouncil$Leader" "latest" "[I", Cond.fieldLink RX1 19 "CommitCouncil$Leader" "outcomes" "[I", Cond.fieldLink RX1 22 "CommitCouncil$Leader" "sights" "[I", Cond.methodLink RX6 36 yX3_init, Cond.instanceMethod yX3_init, Cond.code yX3_init cX3_init 2 none, Cond.methodLink RX3 5 objectInit, Cond.fieldLink RX3 11 "CommitCouncil$Mail" "width" "I", Cond.fieldLink RX3 15 "CommitCouncil$Mail" "cells" "[I", Cond.methodLink RX6 43 yX2_init, Cond.instanceMethod yX2_init, Cond.code yX2_init cX2_init 3 none, Cond.methodLink RX2 3 objectInit, Cond.fieldLink RX2 9 "CommitCouncil$Ledger" "acceptorCount" "I", Cond.fieldLink RX2 15 "CommitCouncil$Ledger" "words" "[I", Cond.arrayClass .boolean, Cond.fieldLink RX2 19 "CommitCouncil$Ledger" "unlike" "[Z", Cond.fieldLink RX2 23 "CommitCouncil$Ledger" "takers" "[I"]
def wsL_law0_r4 : List Cond := [Cond.methodLink RL 88 yX7_init, Cond.instanceMethod yX7_init, Cond.code yX7_init cX7_init 5 none, Cond.methodLink RX7 1 objectInit, Cond.fieldLink RX7 9 "CommitCouncilModel" "message" "[I", Cond.fieldLink RX7 13 "CommitCouncilModel" "made" "[I", Cond.fieldLink RX7 16 "CommitCouncilModel" "how" "[I", Cond.classLink RX7 19 "[[Z", Cond.fieldLink RX7 21 "CommitCouncilModel" "up" "[[Z", Cond.fieldLink RX7 24 "CommitCouncilModel" "promised" "[I", Cond.fieldLink RX7 27 "CommitCouncilModel" "acceptedBallot" "[I", Cond.fieldLink RX7 30 "CommitCouncilModel" "acceptedWord" "[I", Cond.fieldLink RX7 33 "CommitCouncilModel" "ever" "[I", Cond.fieldLink RX7 36 "CommitCouncilModel" "everWord" "[I", Cond.fieldLink RX7 39 "CommitCouncilModel" "ballot" "[I", Cond.fieldLink RX7 42 "CommitCouncilModel" "phase" "[I", Cond.fieldLink RX7 45 "CommitCouncilModel" "highest" "[I", Cond.fieldLink RX7 48 "CommitCouncilModel" "decision" "[I", Cond.fieldLink RX7 51 "CommitCouncilModel" "told" "[I", Cond.fieldLink RX7 54 "CommitCouncilModel" "toldBallot" "[I", Cond.fieldLink RX7 57 "CommitCouncilModel" "toldWord" "[I", Cond.fieldLink RX7 60 "CommitCouncilModel" "seenBallot" "[I", Cond.fieldLink RX7 63 "CommitCouncilModel" "seenWord" "[I", Cond.fieldLink RX7 66 "CommitCouncilModel" "outcome" "[I"]
def wsL_law0_r5 : List Cond := [Cond.fieldLink RX7 69 "CommitCouncilModel" "managers" "I", Cond.fieldLink RX7 73 "CommitCouncilModel" "acceptors" "I", Cond.methodLink RL 89 yL_prepare, Cond.static yL_prepare, Cond.codeWith yL_prepare cL_prepare 4 (some .int) [(0, 16, 19, 13)], Cond.classLink RL 13 "java/lang/IndexOutOfBoundsException", Cond.methodLink RL 7 yX6_prepare, Cond.instanceMethod yX6_prepare, Cond.selects RX6 yX6_prepare yX6_prepare, Cond.code yX6_prepare cX6_prepare 2 (some .boolean), Cond.methodLink RX6 48 yX6_checkOne, Cond.static yX6_checkOne, Cond.code yX6_checkOne cX6_checkOne 2 none, Cond.classLink RX6 190 "java/lang/IndexOutOfBoundsException", Cond.initialized "java/lang/IndexOutOfBoundsException", Cond.methodLink RX6 51 yX6_propose, Cond.instanceMethod yX6_propose, Cond.selects RX6 yX6_propose yX6_propose, Cond.code yX6_propose cX6_propose 5 (some .boolean), Cond.fieldLink RX6 59 "CommitCouncil$Manager" "up" "Z", Cond.sameField "CommitCouncil$Manager" "CommitCouncil$Member" "up" "Z", Cond.fieldLink RX6 55 "CommitCouncil$Manager" "state" "I", Cond.fieldLink RX6 67 "CommitCouncil$Manager" "proposed" "I", Cond.methodLink RX6 63 yX3_hasRoomFor]
def wsL_law0_r6 : List Cond := [Cond.instanceMethod yX3_hasRoomFor, Cond.selects RX3 yX3_hasRoomFor yX3_hasRoomFor, Cond.code yX3_hasRoomFor cX3_hasRoomFor 2 (some .boolean), Cond.fieldLink RX3 19 "CommitCouncil$Mail" "size" "I", Cond.methodLink RX6 70 yX6_sendVotes, Cond.instanceMethod yX6_sendVotes, Cond.selects RX6 yX6_sendVotes yX6_sendVotes, Cond.code yX6_sendVotes cX6_sendVotes 5 none, Cond.methodLink RX6 74 yX3_send, Cond.instanceMethod yX3_send, Cond.selects RX3 yX3_send yX3_send, Cond.code yX3_send cX3_send 8 none, Cond.fieldLink RX3 22 "CommitCouncil$Mail" "sent" "I", Cond.methodLink RL 92 yX7_prepare, Cond.instanceMethod yX7_prepare, Cond.selects RX7 yX7_prepare yX7_prepare, Cond.code yX7_prepare cX7_prepare 2 (some .boolean), Cond.methodLink RX7 104 yX7_becomes, Cond.instanceMethod yX7_becomes, Cond.selects RX7 yX7_becomes yX7_becomes, Cond.code yX7_becomes cX7_becomes 3 (some .boolean), Cond.methodLink RX7 89 yX7_isManager, Cond.instanceMethod yX7_isManager, Cond.selects RX7 yX7_isManager yX7_isManager]
def wsL_law0_r7 : List Cond := [Cond.code yX7_isManager cX7_isManager 2 (some .boolean), Cond.methodLink RX7 93 yX7_lacks, Cond.instanceMethod yX7_lacks, Cond.selects RX7 yX7_lacks yX7_lacks, Cond.code yX7_lacks cX7_lacks 2 (some .boolean), Cond.fieldLink RX7 76 "CommitCouncilModel" "thrown" "I", Cond.methodLink RX7 97 yX7_hasRoom, Cond.instanceMethod yX7_hasRoom, Cond.selects RX7 yX7_hasRoom yX7_hasRoom, Cond.code yX7_hasRoom cX7_hasRoom 2 (some .boolean), Cond.fieldLink RX7 79 "CommitCouncilModel" "many" "I", Cond.methodLink RX7 100 yX7_votes, Cond.instanceMethod yX7_votes, Cond.selects RX7 yX7_votes yX7_votes, Cond.code yX7_votes cX7_votes 5 none, Cond.methodLink RX7 85 yX7_sends, Cond.instanceMethod yX7_sends, Cond.selects RX7 yX7_sends yX7_sends, Cond.code yX7_sends cX7_sends 9 none, Cond.fieldLink RX7 82 "CommitCouncilModel" "sent" "I", Cond.methodLink RL 93 yX7_thrown, Cond.instanceMethod yX7_thrown, Cond.selects RX7 yX7_thrown yX7_thrown, Cond.code yX7_thrown cX7_thrown 1 (some .int)]
def wsL_law0_r8 : List Cond := [Cond.methodLink RL 97 yL_refuse, Cond.static yL_refuse, Cond.codeWith yL_refuse cL_refuse 4 (some .int) [(0, 16, 19, 13)], Cond.methodLink RL 15 yX6_refuse, Cond.instanceMethod yX6_refuse, Cond.selects RX6 yX6_refuse yX6_refuse, Cond.code yX6_refuse cX6_refuse 2 (some .boolean), Cond.methodLink RL 99 yX7_refuse, Cond.instanceMethod yX7_refuse, Cond.selects RX7 yX7_refuse yX7_refuse, Cond.code yX7_refuse cX7_refuse 2 (some .boolean), Cond.methodLink RL 100 yL_resend, Cond.static yL_resend, Cond.codeWith yL_resend cL_resend 4 (some .int) [(0, 16, 19, 13)], Cond.methodLink RL 18 yX6_resend, Cond.instanceMethod yX6_resend, Cond.selects RX6 yX6_resend yX6_resend, Cond.code yX6_resend cX6_resend 4 (some .boolean), Cond.methodLink RL 102 yX7_resend, Cond.instanceMethod yX7_resend, Cond.selects RX7 yX7_resend yX7_resend, Cond.code yX7_resend cX7_resend 2 (some .boolean), Cond.methodLink RL 103 yL_question, Cond.static yL_question]
def wsL_law0_r9 : List Cond := [Cond.codeWith yL_question cL_question 4 (some .int) [(0, 16, 19, 13)], Cond.methodLink RL 21 yX6_question, Cond.instanceMethod yX6_question, Cond.selects RX6 yX6_question yX6_question, Cond.code yX6_question cX6_question 3 (some .boolean), Cond.methodLink RL 105 yX7_question, Cond.instanceMethod yX7_question, Cond.selects RX7 yX7_question yX7_question, Cond.code yX7_question cX7_question 3 (some .boolean), Cond.methodLink RL 106 yL_begin, Cond.static yL_begin, Cond.codeWith yL_begin cL_begin 4 (some .int) [(0, 9, 12, 13)], Cond.methodLink RL 24 yX6_begin, Cond.instanceMethod yX6_begin, Cond.selects RX6 yX6_begin yX6_begin, Cond.code yX6_begin cX6_begin 6 (some .int), Cond.fieldLink RX6 78 "CommitCouncil$Leader" "highest" "I", Cond.fieldLink RX6 85 "CommitCouncil$Leader" "decision" "I", Cond.fieldLink RX6 88 "CommitCouncil$Leader" "up" "Z", Cond.sameField "CommitCouncil$Leader" "CommitCouncil$Member" "up" "Z", Cond.fieldLink RX6 92 "CommitCouncil" "begun" "I", Cond.methodLink RX6 81 yX6_leastOwnAbove, Cond.static yX6_leastOwnAbove, Cond.code yX6_leastOwnAbove cX6_leastOwnAbove 3 (some .int)]
def wsL_law0_r10 : List Cond := [Cond.methodLink RX6 89 yX1_startAsking, Cond.instanceMethod yX1_startAsking, Cond.selects RX1 yX1_startAsking yX1_startAsking, Cond.code yX1_startAsking cX1_startAsking 2 none, Cond.fieldLink RX1 25 "CommitCouncil$Leader" "ballot" "I", Cond.fieldLink RX1 28 "CommitCouncil$Leader" "highest" "I", Cond.fieldLink RX1 31 "CommitCouncil$Leader" "phase" "I", Cond.fieldLink RX1 34 "CommitCouncil$Leader" "toldBy" "I", Cond.methodLink RX1 37 yJ7_fill_53178, Cond.static yJ7_fill_53178, Cond.initialized RJ7, Cond.code yJ7_fill_53178 cJ7_fill_53178 4 none, Cond.methodLink RX6 95 yX6_sendDecisions, Cond.instanceMethod yX6_sendDecisions, Cond.selects RX6 yX6_sendDecisions yX6_sendDecisions, Cond.code yX6_sendDecisions cX6_sendDecisions 3 none, Cond.methodLink RL 108 yX7_begin, Cond.instanceMethod yX7_begin, Cond.selects RX7 yX7_begin yX7_begin, Cond.code yX7_begin cX7_begin 4 (some .int), Cond.fieldLink RX7 111 "CommitCouncilModel" "begun" "I", Cond.methodLink RX7 108 yX7_isLeader, Cond.static yX7_isLeader, Cond.code yX7_isLeader cX7_isLeader 1 (some .boolean)]
def wsL_law0_r11 : List Cond := [Cond.methodLink RL 109 yL_deliver, Cond.static yL_deliver, Cond.codeWith yL_deliver cL_deliver 4 (some .int) [(0, 9, 12, 13)], Cond.methodLink RL 28 yX6_deliver, Cond.instanceMethod yX6_deliver, Cond.selects RX6 yX6_deliver yX6_deliver, Cond.code yX6_deliver cX6_deliver 2 (some .int), Cond.fieldLink RX6 98 "CommitCouncil$Mail" "size" "I", Cond.methodLink RX6 101 yX6_bring, Cond.instanceMethod yX6_bring, Cond.selects RX6 yX6_bring yX6_bring, Cond.code yX6_bring cX6_bring 6 (some .int), Cond.fieldLink RX6 174 "CommitCouncil" "came" "I", Cond.methodLink RX6 128 yX3_part, Cond.instanceMethod yX3_part, Cond.selects RX3 yX3_part yX3_part, Cond.code yX3_part cX3_part 3 (some .int), Cond.methodLink RX6 202 yX6_isUp, Cond.instanceMethod yX6_isUp, Cond.selects RX6 yX6_isUp yX6_isUp, Cond.code yX6_isUp cX6_isUp 3 (some .boolean), Cond.fieldLink RX6 143 "CommitCouncil$Acceptor" "up" "Z", Cond.sameField "CommitCouncil$Acceptor" "CommitCouncil$Member" "up" "Z", Cond.methodLink RX6 206 yX6_answersTo]
def wsL_law0_r12 : List Cond := [Cond.instanceMethod yX6_answersTo, Cond.selects RX6 yX6_answersTo yX6_answersTo, Cond.code yX6_answersTo cX6_answersTo 9 (some .int), Cond.fieldLink RX6 140 "CommitCouncil$Acceptor" "promised" "I", Cond.methodLink RX6 213 yX6_voteOf, Cond.static yX6_voteOf, Cond.code yX6_voteOf cX6_voteOf 2 (some .int), Cond.methodLink RX6 216 yX1_decisionAfter, Cond.instanceMethod yX1_decisionAfter, Cond.selects RX1 yX1_decisionAfter yX1_decisionAfter, Cond.code yX1_decisionAfter cX1_decisionAfter 6 (some .int), Cond.fieldLink RX1 49 "CommitCouncil$Leader" "decision" "I", Cond.methodLink RX1 52 yX1_outcomeAfter, Cond.instanceMethod yX1_outcomeAfter, Cond.selects RX1 yX1_outcomeAfter yX1_outcomeAfter, Cond.code yX1_outcomeAfter cX1_outcomeAfter 6 (some .int), Cond.static yX6_ballotOf, Cond.code yX6_ballotOf cX6_ballotOf 1 (some .int), Cond.methodLink RX1 62 yX1_sightOf, Cond.instanceMethod yX1_sightOf, Cond.selects RX1 yX1_sightOf yX1_sightOf, Cond.code yX1_sightOf cX1_sightOf 4 (some .int), Cond.static yX6_wordOf, Cond.code yX6_wordOf cX6_wordOf 1 (some .int)]
def wsL_law0_r13 : List Cond := [Cond.methodLink RX6 219 yX1_keeps, Cond.instanceMethod yX1_keeps, Cond.selects RX1 yX1_keeps yX1_keeps, Cond.code yX1_keeps cX1_keeps 3 (some .boolean), Cond.methodLink RX6 222 yX1_oneMoreIsEnough, Cond.instanceMethod yX1_oneMoreIsEnough, Cond.selects RX1 yX1_oneMoreIsEnough yX1_oneMoreIsEnough, Cond.code yX1_oneMoreIsEnough cX1_oneMoreIsEnough 1 (some .boolean), Cond.methodLink RX1 43 yJ6_bitCount_0f7a4, Cond.static yJ6_bitCount_0f7a4, Cond.initialized RJ6, Cond.code yJ6_bitCount_0f7a4 cJ6_bitCount_0f7a4 1 (some .int), Cond.constant RJ6 265 (1431655765), Cond.constant RJ6 266 (858993459), Cond.constant RJ6 267 (252645135), Cond.methodLink RX6 210 yX6_take, Cond.instanceMethod yX6_take, Cond.selects RX6 yX6_take yX6_take, Cond.code yX6_take cX6_take 5 none, Cond.methodLink RX6 226 yX6_takeVote, Cond.instanceMethod yX6_takeVote, Cond.selects RX6 yX6_takeVote yX6_takeVote, Cond.code yX6_takeVote cX6_takeVote 7 none, Cond.methodLink RX6 242 yX0_accept]
def wsL_law0_r14 : List Cond := [Cond.instanceMethod yX0_accept, Cond.selects RX0 yX0_accept yX0_accept, Cond.code yX0_accept cX0_accept 4 none, Cond.fieldLink RX0 13 "CommitCouncil$Acceptor" "promised" "I", Cond.methodLink RX6 245 yX2_enter, Cond.instanceMethod yX2_enter, Cond.selects RX2 yX2_enter yX2_enter, Cond.code yX2_enter cX2_enter 7 none, Cond.methodLink RX2 26 yJ6_bitCount_0f7a4, Cond.methodLink RX6 229 yX6_takeVoted, Cond.instanceMethod yX6_takeVoted, Cond.selects RX6 yX6_takeVoted yX6_takeVoted, Cond.code yX6_takeVoted cX6_takeVoted 6 none, Cond.methodLink RX6 256 Lib.Math.max.name, Cond.static Lib.Math.max.name, Cond.initialized "java/lang/Math", Cond.code Lib.Math.max.name Lib.Math.max.code 2 (some .int), Cond.methodLink RX6 259 yX1_see, Cond.instanceMethod yX1_see, Cond.selects RX1 yX1_see yX1_see, Cond.code yX1_see cX1_see 7 none, Cond.methodLink RX1 56 yX1_decisionAfter, Cond.methodLink RX6 233 yX6_takeAsk, Cond.instanceMethod yX6_takeAsk]
def wsL_law0_r15 : List Cond := [Cond.selects RX6 yX6_takeAsk yX6_takeAsk, Cond.code yX6_takeAsk cX6_takeAsk 4 none, Cond.fieldLink RX6 144 "CommitCouncil$Acceptor" "accepted" "[I", Cond.methodLink RX6 249 yX6_leaderOf, Cond.static yX6_leaderOf, Cond.code yX6_leaderOf cX6_leaderOf 1 (some .int), Cond.methodLink RX6 195 yJ9_floorMod_7cf53, Cond.static yJ9_floorMod_7cf53, Cond.initialized RJ9, Cond.code yJ9_floorMod_7cf53 cJ9_floorMod_7cf53 3 (some .int), Cond.methodLink RX6 252 yX3_attach, Cond.instanceMethod yX3_attach, Cond.selects RX3 yX3_attach yX3_attach, Cond.code yX3_attach cX3_attach 2 none, Cond.methodLink RX3 25 arraycopyName, Cond.native arraycopyName, Cond.static arraycopyName, Cond.initialized "java/lang/System", Cond.methodLink RX6 236 yX6_takeTold, Cond.instanceMethod yX6_takeTold, Cond.selects RX6 yX6_takeTold yX6_takeTold, Cond.code yX6_takeTold cX6_takeTold 7 none, Cond.fieldLink RX6 154 "CommitCouncil$Leader" "toldBy" "I", Cond.fieldLink RX6 262 "CommitCouncil$Leader" "latest" "[I"]
def wsL_law0_r16 : List Cond := [Cond.methodLink RX6 131 yX3_tidings, Cond.instanceMethod yX3_tidings, Cond.selects RX3 yX3_tidings yX3_tidings, Cond.code yX3_tidings cX3_tidings 3 (some .int), Cond.methodLink RX6 265 yX6_startVoting, Cond.instanceMethod yX6_startVoting, Cond.selects RX6 yX6_startVoting yX6_startVoting, Cond.code yX6_startVoting cX6_startVoting 4 none, Cond.fieldLink RX6 151 "CommitCouncil$Leader" "phase" "I", Cond.fieldLink RX6 148 "CommitCouncil$Leader" "ballot" "I", Cond.methodLink RX6 137 yX6_wordOf, Cond.methodLink RX6 239 yX6_takeQuestion, Cond.instanceMethod yX6_takeQuestion, Cond.selects RX6 yX6_takeQuestion yX6_takeQuestion, Cond.code yX6_takeQuestion cX6_takeQuestion 3 none, Cond.methodLink RX6 105 yX3_remove, Cond.instanceMethod yX3_remove, Cond.selects RX3 yX3_remove yX3_remove, Cond.code yX3_remove cX3_remove 2 none, Cond.methodLink RL 111 yX7_deliver, Cond.instanceMethod yX7_deliver, Cond.selects RX7 yX7_deliver yX7_deliver, Cond.code yX7_deliver cX7_deliver 2 (some .int), Cond.methodLink RX7 146 yX7_isMessage]
def wsL_law0_r17 : List Cond := [Cond.instanceMethod yX7_isMessage, Cond.selects RX7 yX7_isMessage yX7_isMessage, Cond.code yX7_isMessage cX7_isMessage 2 (some .boolean), Cond.methodLink RX7 149 yX7_comes, Cond.instanceMethod yX7_comes, Cond.selects RX7 yX7_comes yX7_comes, Cond.code yX7_comes cX7_comes 6 (some .int), Cond.fieldLink RX7 159 "CommitCouncilModel" "came" "I", Cond.methodLink RX7 114 yX7_of, Cond.instanceMethod yX7_of, Cond.selects RX7 yX7_of yX7_of, Cond.code yX7_of cX7_of 3 (some .int), Cond.methodLink RX7 152 yX7_leadsTo, Cond.instanceMethod yX7_leadsTo, Cond.selects RX7 yX7_leadsTo yX7_leadsTo, Cond.code yX7_leadsTo cX7_leadsTo 4 (some .int), Cond.methodLink RX7 118 yX7_bits, Cond.static yX7_bits, Cond.code yX7_bits cX7_bits 3 (some .int), Cond.methodLink RX7 122 yX7_isMost, Cond.instanceMethod yX7_isMost, Cond.selects RX7 yX7_isMost yX7_isMost, Cond.code yX7_isMost cX7_isMost 2 (some .boolean), Cond.methodLink RX7 125 yX7_decides]
def wsL_law0_r18 : List Cond := [Cond.instanceMethod yX7_decides, Cond.selects RX7 yX7_decides yX7_decides, Cond.code yX7_decides cX7_decides 3 (some .boolean), Cond.methodLink RX7 143 yX7_decided, Cond.instanceMethod yX7_decided, Cond.selects RX7 yX7_decided yX7_decided, Cond.code yX7_decided cX7_decided 6 (some .int), Cond.methodLink RX7 140 yX7_settled, Cond.instanceMethod yX7_settled, Cond.selects RX7 yX7_settled yX7_settled, Cond.code yX7_settled cX7_settled 8 (some .int), Cond.methodLink RX7 128 yX7_ballotSeen, Cond.instanceMethod yX7_ballotSeen, Cond.selects RX7 yX7_ballotSeen yX7_ballotSeen, Cond.code yX7_ballotSeen cX7_ballotSeen 5 (some .int), Cond.methodLink RX7 132 yX7_isNew, Cond.instanceMethod yX7_isNew, Cond.selects RX7 yX7_isNew yX7_isNew, Cond.code yX7_isNew cX7_isNew 5 (some .boolean), Cond.methodLink RX7 136 yX7_seenAt, Cond.instanceMethod yX7_seenAt, Cond.selects RX7 yX7_seenAt yX7_seenAt, Cond.code yX7_seenAt cX7_seenAt 4 (some .int), Cond.methodLink RX7 155 yX7_remove]
def wsL_law0_r19 : List Cond := [Cond.instanceMethod yX7_remove, Cond.selects RX7 yX7_remove yX7_remove, Cond.code yX7_remove cX7_remove 3 none, Cond.methodLink RX7 162 yX7_voteComes, Cond.instanceMethod yX7_voteComes, Cond.selects RX7 yX7_voteComes yX7_voteComes, Cond.code yX7_voteComes cX7_voteComes 6 none, Cond.methodLink RX7 165 yX7_askComes, Cond.instanceMethod yX7_askComes, Cond.selects RX7 yX7_askComes yX7_askComes, Cond.code yX7_askComes cX7_askComes 5 none, Cond.methodLink RX7 168 yX7_toldComes, Cond.instanceMethod yX7_toldComes, Cond.selects RX7 yX7_toldComes yX7_toldComes, Cond.code yX7_toldComes cX7_toldComes 8 none, Cond.methodLink RX7 175 Lib.Math.max.name, Cond.methodLink RX7 171 yX7_votedComes, Cond.instanceMethod yX7_votedComes, Cond.selects RX7 yX7_votedComes yX7_votedComes, Cond.code yX7_votedComes cX7_votedComes 6 none, Cond.methodLink RL 112 yL_drop, Cond.static yL_drop, Cond.codeWith yL_drop cL_drop 3 (some .int) [(0, 5, 8, 13)], Cond.methodLink RL 31 yX6_drop]
def wsL_law0_r20 : List Cond := [Cond.instanceMethod yX6_drop, Cond.selects RX6 yX6_drop yX6_drop, Cond.code yX6_drop cX6_drop 2 none, Cond.methodLink RL 115 yX7_drop, Cond.instanceMethod yX7_drop, Cond.selects RX7 yX7_drop yX7_drop, Cond.code yX7_drop cX7_drop 2 none, Cond.methodLink RL 116 yL_copy, Cond.static yL_copy, Cond.codeWith yL_copy cL_copy 4 (some .int) [(0, 9, 12, 13)], Cond.methodLink RL 35 yX6_copy, Cond.instanceMethod yX6_copy, Cond.selects RX6 yX6_copy yX6_copy, Cond.code yX6_copy cX6_copy 2 (some .int), Cond.methodLink RX6 108 yX3_sendLike, Cond.instanceMethod yX3_sendLike, Cond.selects RX3 yX3_sendLike yX3_sendLike, Cond.code yX3_sendLike cX3_sendLike 2 none, Cond.methodLink RL 118 yX7_copy, Cond.instanceMethod yX7_copy, Cond.selects RX7 yX7_copy yX7_copy, Cond.code yX7_copy cX7_copy 3 (some .int), Cond.methodLink RL 119 yL_calm, Cond.static yL_calm]
def wsL_law0_r21 : List Cond := [Cond.codeWith yL_calm cL_calm 4 (some .int) [(0, 9, 12, 41)], Cond.classLink RL 41 "java/lang/IllegalArgumentException", Cond.methodLink RL 38 yX6_calm, Cond.instanceMethod yX6_calm, Cond.selects RX6 yX6_calm yX6_calm, Cond.code yX6_calm cX6_calm 3 (some .int), Cond.classLink RX6 111 "java/lang/IllegalArgumentException", Cond.initialized "java/lang/IllegalArgumentException", Cond.methodLink RL 121 yX7_calm, Cond.instanceMethod yX7_calm, Cond.selects RX7 yX7_calm yX7_calm, Cond.code yX7_calm cX7_calm 3 (some .int), Cond.methodLink RL 122 yL_crash, Cond.static yL_crash, Cond.codeWith yL_crash cL_crash 5 (some .int) [(0, 17, 20, 41), (0, 17, 24, 13)], Cond.methodLink RL 43 yX6_crash, Cond.instanceMethod yX6_crash, Cond.selects RX6 yX6_crash yX6_crash, Cond.code yX6_crash cX6_crash 4 (some .boolean), Cond.fieldLink RX6 122 "CommitCouncil$Member" "up" "Z", Cond.methodLink RX6 118 yX6_memberOf, Cond.instanceMethod yX6_memberOf, Cond.selects RX6 yX6_memberOf yX6_memberOf, Cond.code yX6_memberOf cX6_memberOf 3 (some (.object "CommitCouncil$Member"))]
def wsL_law0_r22 : List Cond := [Cond.methodLink RX6 125 ⟨"CommitCouncil$Member", "forget", "()V"⟩, Cond.sameMethod "CommitCouncil$Member" "CommitCouncil$Member" "forget" "()V", Cond.selects RX0 ⟨"CommitCouncil$Member", "forget", "()V"⟩ yX5_forget, Cond.instanceMethod yX5_forget, Cond.code yX5_forget cX5_forget 1 none, Cond.instanceMethod ⟨"CommitCouncil$Member", "forget", "()V"⟩, Cond.selects RX1 ⟨"CommitCouncil$Member", "forget", "()V"⟩ yX1_forget, Cond.instanceMethod yX1_forget, Cond.code yX1_forget cX1_forget 1 none, Cond.selects RX4 ⟨"CommitCouncil$Member", "forget", "()V"⟩ yX5_forget, Cond.methodLink RL 125 yX7_crash, Cond.instanceMethod yX7_crash, Cond.selects RX7 yX7_crash yX7_crash, Cond.code yX7_crash cX7_crash 3 (some .boolean), Cond.methodLink RX7 183 yX7_turns, Cond.instanceMethod yX7_turns, Cond.selects RX7 yX7_turns yX7_turns, Cond.code yX7_turns cX7_turns 6 (some .boolean), Cond.methodLink RX7 180 yX7_manyOf, Cond.instanceMethod yX7_manyOf, Cond.selects RX7 yX7_manyOf yX7_manyOf, Cond.code yX7_manyOf cX7_manyOf 2 (some .int), Cond.methodLink RL 126 yL_recover, Cond.static yL_recover]
def wsL_law0_r23 : List Cond := [Cond.codeWith yL_recover cL_recover 5 (some .int) [(0, 17, 20, 41), (0, 17, 24, 13)], Cond.methodLink RL 47 yX6_recover, Cond.instanceMethod yX6_recover, Cond.selects RX6 yX6_recover yX6_recover, Cond.code yX6_recover cX6_recover 5 (some .boolean), Cond.methodLink RL 128 yX7_recover, Cond.instanceMethod yX7_recover, Cond.selects RX7 yX7_recover yX7_recover, Cond.code yX7_recover cX7_recover 3 (some .boolean), Cond.methodLink RL 129 yL_message, Cond.static yL_message, Cond.codeWith yL_message cL_message 5 (some .int) [(0, 10, 13, 13)], Cond.methodLink RL 50 yX6_message, Cond.instanceMethod yX6_message, Cond.selects RX6 yX6_message yX6_message, Cond.code yX6_message cX6_message 3 (some .int), Cond.methodLink RL 131 yX7_message, Cond.instanceMethod yX7_message, Cond.selects RX7 yX7_message yX7_message, Cond.code yX7_message cX7_message 3 (some .int), Cond.methodLink RL 132 yL_told, Cond.static yL_told, Cond.codeWith yL_told cL_told 6 (some .int) [(0, 12, 15, 13)], Cond.methodLink RL 54 yX6_told]
def wsL_law0_r24 : List Cond := [Cond.instanceMethod yX6_told, Cond.selects RX6 yX6_told yX6_told, Cond.code yX6_told cX6_told 5 (some .int), Cond.methodLink RX6 134 yX6_ballotOf, Cond.methodLink RL 135 yX7_told, Cond.instanceMethod yX7_told, Cond.selects RX7 yX7_told yX7_told, Cond.code yX7_told cX7_told 4 (some .int), Cond.methodLink RL 136 yL_manager, Cond.static yL_manager, Cond.codeWith yL_manager cL_manager 5 (some .int) [(0, 10, 13, 13)], Cond.methodLink RL 58 yX6_manager, Cond.instanceMethod yX6_manager, Cond.selects RX6 yX6_manager yX6_manager, Cond.code yX6_manager cX6_manager 4 (some .int), Cond.methodLink RL 138 yX7_manager, Cond.instanceMethod yX7_manager, Cond.selects RX7 yX7_manager yX7_manager, Cond.code yX7_manager cX7_manager 3 (some .int), Cond.methodLink RL 139 yL_acceptor, Cond.static yL_acceptor, Cond.codeWith yL_acceptor cL_acceptor 6 (some .int) [(0, 12, 15, 13)], Cond.methodLink RL 61 yX6_acceptor, Cond.instanceMethod yX6_acceptor]
def wsL_law0_r25 : List Cond := [Cond.selects RX6 yX6_acceptor yX6_acceptor, Cond.code yX6_acceptor cX6_acceptor 5 (some .int), Cond.methodLink RL 142 yX7_acceptor, Cond.instanceMethod yX7_acceptor, Cond.selects RX7 yX7_acceptor yX7_acceptor, Cond.code yX7_acceptor cX7_acceptor 4 (some .int), Cond.methodLink RX7 187 yX7_isAcceptor, Cond.instanceMethod yX7_isAcceptor, Cond.selects RX7 yX7_isAcceptor yX7_isAcceptor, Cond.code yX7_isAcceptor cX7_isAcceptor 2 (some .boolean), Cond.methodLink RL 143 yL_leader, Cond.static yL_leader, Cond.codeWith yL_leader cL_leader 5 (some .int) [(0, 10, 13, 13)], Cond.methodLink RL 65 yX6_leader, Cond.instanceMethod yX6_leader, Cond.selects RX6 yX6_leader yX6_leader, Cond.code yX6_leader cX6_leader 4 (some .int), Cond.methodLink RX6 157 yJ6_bitCount_0f7a4, Cond.methodLink RL 145 yX7_leader, Cond.instanceMethod yX7_leader, Cond.selects RX7 yX7_leader yX7_leader, Cond.code yX7_leader cX7_leader 3 (some .int), Cond.methodLink RL 146 yL_outcome, Cond.static yL_outcome]
def wsL_law0_r26 : List Cond := [Cond.codeWith yL_outcome cL_outcome 5 (some .int) [(0, 10, 13, 13)], Cond.methodLink RL 68 yX6_outcome, Cond.instanceMethod yX6_outcome, Cond.selects RX6 yX6_outcome yX6_outcome, Cond.code yX6_outcome cX6_outcome 3 (some .int), Cond.fieldLink RX6 162 "CommitCouncil$Leader" "outcomes" "[I", Cond.methodLink RL 148 yX7_outcome, Cond.instanceMethod yX7_outcome, Cond.selects RX7 yX7_outcome yX7_outcome, Cond.code yX7_outcome cX7_outcome 3 (some .int), Cond.methodLink RL 149 yL_seen, Cond.static yL_seen, Cond.codeWith yL_seen cL_seen 6 (some .int) [(0, 12, 15, 13)], Cond.methodLink RL 71 yX6_seen, Cond.instanceMethod yX6_seen, Cond.selects RX6 yX6_seen yX6_seen, Cond.code yX6_seen cX6_seen 4 (some .int), Cond.methodLink RX6 165 yX1_sightOf, Cond.methodLink RL 151 yX7_seen, Cond.instanceMethod yX7_seen, Cond.selects RX7 yX7_seen yX7_seen, Cond.code yX7_seen cX7_seen 4 (some .int), Cond.methodLink RL 152 yL_chosen, Cond.static yL_chosen]
def wsL_law0_r27 : List Cond := [Cond.codeWith yL_chosen cL_chosen 4 (some .int) [(0, 9, 12, 13)], Cond.methodLink RL 74 yX6_chosen, Cond.instanceMethod yX6_chosen, Cond.selects RX6 yX6_chosen yX6_chosen, Cond.code yX6_chosen cX6_chosen 2 (some .int), Cond.fieldLink RX6 168 "CommitCouncil$Ledger" "words" "[I", Cond.methodLink RL 154 yX7_chosen, Cond.instanceMethod yX7_chosen, Cond.selects RX7 yX7_chosen yX7_chosen, Cond.code yX7_chosen cX7_chosen 3 (some .int), Cond.methodLink RL 155 yX6_count, Cond.instanceMethod yX6_count, Cond.selects RX6 yX6_count yX6_count, Cond.code yX6_count cX6_count 2 (some .int), Cond.fieldLink RX6 171 "CommitCouncil$Mail" "sent" "I", Cond.methodLink RX6 177 yX6_howManyUp, Cond.instanceMethod yX6_howManyUp, Cond.selects RX6 yX6_howManyUp yX6_howManyUp, Cond.code yX6_howManyUp cX6_howManyUp 5 (some .int), Cond.methodLink RX6 180 yX6_howManyManagers, Cond.instanceMethod yX6_howManyManagers, Cond.selects RX6 yX6_howManyManagers yX6_howManyManagers, Cond.code yX6_howManyManagers cX6_howManyManagers 4 (some .int), Cond.methodLink RL 158 yX7_count]
def wsL_law0_r28 : List Cond := [Cond.instanceMethod yX7_count, Cond.selects RX7 yX7_count yX7_count, Cond.code yX7_count cX7_count 4 (some .int), Cond.methodLink RL 159 yX6_astray, Cond.instanceMethod yX6_astray, Cond.selects RX6 yX6_astray yX6_astray, Cond.code yX6_astray cX6_astray 4 (some .int), Cond.fieldLink RX6 183 "CommitCouncil$Ledger" "unlike" "[Z", Cond.methodLink RX6 187 yX6_isBackedByChosen, Cond.instanceMethod yX6_isBackedByChosen, Cond.selects RX6 yX6_isBackedByChosen yX6_isBackedByChosen, Cond.code yX6_isBackedByChosen cX6_isBackedByChosen 5 (some .boolean), Cond.methodLink RL 162 yX7_astray, Cond.instanceMethod yX7_astray, Cond.selects RX7 yX7_astray yX7_astray, Cond.code yX7_astray cX7_astray 1 (some .int)]
def wsL_law0 : List Cond := (wsL_law0_r1 ++ (wsL_law0_r2 ++ (wsL_law0_r3 ++ (wsL_law0_r4 ++ (wsL_law0_r5 ++ (wsL_law0_r6 ++ (wsL_law0_r7 ++ (wsL_law0_r8 ++ (wsL_law0_r9 ++ (wsL_law0_r10 ++ (wsL_law0_r11 ++ (wsL_law0_r12 ++ (wsL_law0_r13 ++ (wsL_law0_r14 ++ (wsL_law0_r15 ++ (wsL_law0_r16 ++ (wsL_law0_r17 ++ (wsL_law0_r18 ++ (wsL_law0_r19 ++ (wsL_law0_r20 ++ (wsL_law0_r21 ++ (wsL_law0_r22 ++ (wsL_law0_r23 ++ (wsL_law0_r24 ++ (wsL_law0_r25 ++ (wsL_law0_r26 ++ (wsL_law0_r27 ++ wsL_law0_r28))))))))))))))))))))))))))) ++ wsX60 ++ wsX70 ++ wsX40 ++ wsX00 ++ wsX10 ++ wsX30 ++ wsX20 ++ ([] : List Cond)
def wsL_law : List Cond := wsL_law0 ++ (vx_atS RX6 194 "java/lang/IndexOutOfBoundsException" ["java/lang/RuntimeException", "java/lang/Exception"]).filter goodWord ++ (vx_atS RX6 115 "java/lang/IllegalArgumentException" ["java/lang/RuntimeException", "java/lang/Exception"]).filter goodWord
abbrev vwCl : List vw_C := [(RX0, TX0, 3), (RX1, TX1, 10), (RX2, TX2, 4), (RX3, TX3, 4), (RX4, TX4, 3), (RX6, TX6, 7), (RX7, TX7, 26)]
end
section
/-! THE LOGIC: what a method does, said over a store of ints (cells by numbers, places by numbers); the machine's heap holds the store -/
abbrev gAV : Type := Int32 ⊕ Nat
def gv (ad : Nat → Nat) (x : gAV) : Value := match x with
  | .inl i => .int i
  | .inr k => .ref (ad k)
theorem gv_cat (ad : Nat → Nat) (x : gAV) : (gv ad x).category = 1 := by cases x <;> rfl
theorem gv_sum (ad : Nat → Nat) : ∀ st : List gAV, ((st.map (gv ad)).map fun v => v.category).sum = st.length
  | [] => rfl
  | x :: st => by
    show (gv ad x).category + ((st.map (gv ad)).map fun v => v.category).sum = st.length + 1
    rw [gv_cat, gv_sum ad st, Nat.add_comm]
abbrev gSt : Type := Nat → Nat → Int32
def gup (σ : gSt) (k j : Nat) (v : Int32) : gSt := fun a b => if a = k ∧ b = j then v else σ a b
theorem gup_ne (σ : gSt) {k j a : Nat} (v : Int32) (h : a ≠ k) : gup σ k j v a = σ a := by
  funext b
  unfold gup
  rw [if_neg (fun q => h q.1)]
theorem gup_self (σ : gSt) (k j : Nat) (v : Int32) : gup σ k j v k = upd (σ k) j v := by
  funext b
  unfold gup upd
  by_cases h : b = j
  · rw [if_pos ⟨rfl, h⟩, if_pos h]
  · rw [if_neg (fun q => h q.2), if_neg h]
def gur (σ : gSt) (k : Nat) (f : Nat → Int32) : gSt := fun a => if a = k then f else σ a
theorem gur_ne (σ : gSt) {k a : Nat} (f : Nat → Int32) (h : a ≠ k) : gur σ k f a = σ a := if_neg h
theorem gur_self (σ : gSt) (k : Nat) (f : Nat → Int32) : gur σ k f k = f := if_pos rfl
/-- what a cell is: an array (its type's number, its length, and where its places are references the cells that they name), or an object (its class's number; of each field none: an int, or the cell that it names) -/
abbrev gSh : Type := (Nat × Nat × Option (Nat → Nat)) ⊕ (Nat × List (Option Nat))
def gfl (ad : Nat → Nat) (f : Nat → Int32) : Nat → List (Option Nat) → List Value
  | _, [] => []
  | j, none :: r => .int (f j) :: gfl ad f (j + 1) r
  | j, some t :: r => .ref (ad t) :: gfl ad f (j + 1) r
theorem gfl_len (ad : Nat → Nat) (f : Nat → Int32) : ∀ (fs : List (Option Nat)) (i : Nat), (gfl ad f i fs).length = fs.length
  | [], _ => rfl
  | none :: r, i => congrArg (· + 1) (gfl_len ad f r (i + 1))
  | some _ :: r, i => congrArg (· + 1) (gfl_len ad f r (i + 1))
theorem gfl_int (ad : Nat → Nat) (f : Nat → Int32) : ∀ (fs : List (Option Nat)) (i k : Nat), fs[k]? = some none → (gfl ad f i fs)[k]? = some (.int (f (i + k)))
  | [], _, k, h => by simp at h
  | none :: r, i, 0, _ => rfl
  | some t :: r, i, 0, h => by simp at h
  | none :: r, i, k + 1, h => by
    rw [List.getElem?_cons_succ] at h
    show (gfl ad f (i + 1) r)[k]? = _
    rw [gfl_int ad f r (i + 1) k h, show i + 1 + k = i + (k + 1) by omega]
  | some t :: r, i, k + 1, h => by
    rw [List.getElem?_cons_succ] at h
    show (gfl ad f (i + 1) r)[k]? = _
    rw [gfl_int ad f r (i + 1) k h, show i + 1 + k = i + (k + 1) by omega]
theorem gfl_ref (ad : Nat → Nat) (f : Nat → Int32) : ∀ (fs : List (Option Nat)) (i k t : Nat), fs[k]? = some (some t) → (gfl ad f i fs)[k]? = some (.ref (ad t))
  | [], _, k, t, h => by simp at h
  | none :: r, i, 0, t, h => by simp at h
  | some u :: r, i, 0, t, h => by
    rw [List.getElem?_cons_zero] at h
    cases h
    rfl
  | none :: r, i, k + 1, t, h => by
    rw [List.getElem?_cons_succ] at h
    exact gfl_ref ad f r (i + 1) k t h
  | some u :: r, i, k + 1, t, h => by
    rw [List.getElem?_cons_succ] at h
    exact gfl_ref ad f r (i + 1) k t h
theorem gfl_upd0 (ad : Nat → Nat) (f : Nat → Int32) (j : Nat) (v : Int32) : ∀ (fs : List (Option Nat)) (i : Nat), j < i → gfl ad (upd f j v) i fs = gfl ad f i fs
  | [], _, _ => rfl
  | none :: r, i, h => by
    show Value.int (upd f j v i) :: gfl ad (upd f j v) (i + 1) r = .int (f i) :: gfl ad f (i + 1) r
    rw [gfl_upd0 ad f j v r (i + 1) (by omega)]
    congr 2
    unfold upd
    rw [if_neg (by omega)]
  | some t :: r, i, h => by
    show Value.ref (ad t) :: gfl ad (upd f j v) (i + 1) r = .ref (ad t) :: gfl ad f (i + 1) r
    rw [gfl_upd0 ad f j v r (i + 1) (by omega)]
theorem gfl_upd (ad : Nat → Nat) (f : Nat → Int32) (v : Int32) : ∀ (fs : List (Option Nat)) (i k : Nat), fs[k]? = some none → gfl ad (upd f (i + k) v) i fs = (gfl ad f i fs).set k (.int v)
  | [], _, k, h => by simp at h
  | none :: r, i, 0, _ => by
    show Value.int (upd f (i + 0) v i) :: gfl ad (upd f (i + 0) v) (i + 1) r = .int v :: gfl ad f (i + 1) r
    rw [gfl_upd0 ad f (i + 0) v r (i + 1) (by omega)]
    congr 2
    unfold upd
    rw [if_pos (by omega)]
  | some t :: r, i, 0, h => by simp at h
  | none :: r, i, k + 1, h => by
    rw [List.getElem?_cons_succ] at h
    show Value.int (upd f (i + (k + 1)) v i) :: gfl ad (upd f (i + (k + 1)) v) (i + 1) r = .int (f i) :: (gfl ad f (i + 1) r).set k (.int v)
    rw [show i + (k + 1) = i + 1 + k by omega, gfl_upd ad f v r (i + 1) k h]
    congr 2
    unfold upd
    rw [if_neg (by omega)]
  | some t :: r, i, k + 1, h => by
    rw [List.getElem?_cons_succ] at h
    show Value.ref (ad t) :: gfl ad (upd f (i + (k + 1)) v) (i + 1) r = .ref (ad t) :: (gfl ad f (i + 1) r).set k (.int v)
    rw [show i + (k + 1) = i + 1 + k by omega, gfl_upd ad f v r (i + 1) k h]
def gce (cy : Nat → ClassId) (ad : Nat → Nat) (f : Nat → Int32) (x : gSh) : va_E := match x with
  | .inl (ty, n, none) => .inl (cy ty, n, .inl f)
  | .inl (ty, n, some g) => .inl (cy ty, n, .inr (.inr (.inr (.inr (fun j => some (ad (g j)))))))
  | .inr (ci, fs) => .inr (ci, gfl ad f 0 fs)
/-- the array types by their numbers -/
def gty : Nat → FieldType
  | 0 => .int
  | 1 => .boolean
  | 2 => .object RX0
  | 3 => .object RX1
  | 4 => .object RX4
  | _ => .array .boolean
def gtys (cy : Nat → ClassId) : List (ClassId × FieldType) := [(cy 0, gty 0), (cy 1, gty 1), (cy 2, gty 2), (cy 3, gty 3), (cy 4, gty 4), (cy 5, gty 5)]
/-- which cells there are, and what each is -/
abbrev gG : Type := List Nat × (Nat → gSh)
def gP (G : gG) (D : va_G) (cy : Nat → ClassId) (ad : Nat → Nat) (σ : gSt) (H : Heap) : Prop := ∀ k, k ∈ G.1 → va_at D vwCl (ad k, gce cy ad (σ k) (G.2 k)) H
/-- the cells are apart -/
def gNd (G : gG) : Prop := ∀ (i j a : Nat), G.1[i]? = some a → G.1[j]? = some a → i = j
def gInj (G : gG) (ad : Nat → Nat) : Prop := gNd G ∧ ∀ i j, i ∈ G.1 → j ∈ G.1 → ad i = ad j → i = j
def gA (G : gG) (ad : Nat → Nat) (sz : Nat) : Nat → Prop := fun q => (∃ k, k ∈ G.1 ∧ ad k = q) ∨ sz ≤ q
theorem gA_in {G : gG} {ad : Nat → Nat} {sz k : Nat} (h : k ∈ G.1) : gA G ad sz (ad k) := Or.inl ⟨k, h, rfl⟩
theorem gA_new {G : gG} {ad : Nat → Nat} {sz q : Nat} (h : sz ≤ q) : gA G ad sz q := Or.inr h
theorem gA_le {G : gG} {ad : Nat → Nat} {sz sz2 : Nat} (h : sz ≤ sz2) : ∀ q, gA G ad sz2 q → gA G ad sz q := fun q hq => hq.elim Or.inl (fun z => Or.inr (Nat.le_trans h z))
/-- the world as the kit has worlds -/
def gws (G : gG) (cy : Nat → ClassId) (ad : Nat → Nat) (σ : gSt) : va_W := G.1.map (fun k => (ad k, gce cy ad (σ k) (G.2 k)))
theorem gws_P {G : gG} {D : va_G} {cy : Nat → ClassId} {ad : Nat → Nat} {σ : gSt} {H : Heap} (h : gP G D cy ad σ H) : va_P D vwCl (gws G cy ad σ) H := by
  intro i q hq
  obtain ⟨k, hk, rfl⟩ := List.mem_map.mp (List.mem_of_getElem? hq)
  exact h k hk
theorem gP_ws {G : gG} {D : va_G} {cy : Nat → ClassId} {ad : Nat → Nat} {σ : gSt} {H : Heap} (h : va_P D vwCl (gws G cy ad σ) H) : gP G D cy ad σ H := by
  intro k hk
  obtain ⟨i, hi⟩ := List.getElem?_of_mem (List.mem_map.mpr ⟨k, hk, rfl⟩ : (ad k, gce cy ad (σ k) (G.2 k)) ∈ gws G cy ad σ)
  exact h i _ hi
theorem gws_D {G : gG} {cy : Nat → ClassId} {ad : Nat → Nat} {σ : gSt} {sz : Nat} (h : gInj G ad) : va_D (gA G ad sz) (gws G cy ad σ) := by
  refine ⟨fun i j p q hi hj e => ?_, fun i q hq => ?_⟩
  · unfold gws at hi hj
    rw [List.getElem?_map] at hi hj
    cases ha : G.1[i]? with
    | none => rw [ha] at hi; cases hi
    | some a =>
      cases hb : G.1[j]? with
      | none => rw [hb] at hj; cases hj
      | some b =>
        rw [ha] at hi
        rw [hb] at hj
        cases hi
        cases hj
        have hab := h.2 a b (List.mem_of_getElem? ha) (List.mem_of_getElem? hb) e
        subst hab
        exact h.1 i j a ha hb
  · obtain ⟨k, hk, rfl⟩ := List.mem_map.mp (List.mem_of_getElem? hq)
    exact gA_in hk
theorem gws_at {G : gG} {cy : Nat → ClassId} {ad : Nat → Nat} {σ : gSt} {k : Nat} (hk : k ∈ G.1) {x : gSh} (hx : G.2 k = x) : ∃ i : Nat, G.1[i]? = some k ∧ (gws G cy ad σ)[i]? = some (ad k, gce cy ad (σ k) x) := by
  obtain ⟨i, hi⟩ := List.getElem?_of_mem hk
  refine ⟨i, hi, ?_⟩
  unfold gws
  rw [List.getElem?_map, hi, ← hx]
  rfl
theorem gws_set {G : gG} {cy : Nat → ClassId} {ad : Nat → Nat} {σ σ' : gSt} {i k : Nat} (hn : gNd G) (hi : G.1[i]? = some k) {e : va_E} (he : gce cy ad (σ' k) (G.2 k) = e) (hs : ∀ a, a ≠ k → σ' a = σ a) : (gws G cy ad σ).set i (ad k, e) = gws G cy ad σ' := by
  apply List.ext_getElem?
  intro j
  unfold gws
  by_cases hj : j = i
  · subst hj
    have hl : j < (G.1.map (fun k => (ad k, gce cy ad (σ k) (G.2 k)))).length := by rw [List.length_map]; exact (List.getElem?_eq_some_iff.mp hi).1
    rw [List.getElem?_set_self hl, List.getElem?_map, hi, ← he]
    rfl
  · rw [List.getElem?_set_ne (fun q => hj q.symm), List.getElem?_map, List.getElem?_map]
    cases ha : G.1[j]? with
    | none => rfl
    | some a =>
      have hak : a ≠ k := by
        intro q
        subst q
        exact hj (hn j i _ ha hi)
      show some (ad a, gce cy ad (σ a) (G.2 a)) = some (ad a, gce cy ad (σ' a) (G.2 a))
      rw [hs a hak]
theorem gP_kept {G : gG} {D : va_G} {cy : Nat → ClassId} {ad : Nat → Nat} {σ : gSt} {H H1 : Heap} (h : gP G D cy ad σ H) (hq : ∀ k, k ∈ G.1 → H1[ad k]? = H[ad k]?) : gP G D cy ad σ H1 := fun k hk => (h k hk).kept (hq k hk)
/-- the locals: of each none (not known), or what it holds -/
def gpl (ad : Nat → Nat) : Nat → List (Option gAV) → List (Nat × Value)
  | _, [] => []
  | i, none :: r => gpl ad (i + 1) r
  | i, some v :: r => (i, gv ad v) :: gpl ad (i + 1) r
theorem gpl_mem (ad : Nat → Nat) : ∀ (lv : List (Option gAV)) (i : Nat) (q : Nat × Value), q ∈ gpl ad i lv → ∃ (j : Nat) (v : gAV), lv[j]? = some (some v) ∧ q = (i + j, gv ad v)
  | [], _, q, h => by cases h
  | none :: r, i, q, h => by
    obtain ⟨j, v, h1, h2⟩ := gpl_mem ad r (i + 1) q h
    exact ⟨j + 1, v, by rw [List.getElem?_cons_succ]; exact h1, by rw [h2, show i + 1 + j = i + (j + 1) by omega]⟩
  | some w :: r, i, q, h => by
    rcases List.mem_cons.mp h with h | h
    · exact ⟨0, w, rfl, h⟩
    · obtain ⟨j, v, h1, h2⟩ := gpl_mem ad r (i + 1) q h
      exact ⟨j + 1, v, by rw [List.getElem?_cons_succ]; exact h1, by rw [h2, show i + 1 + j = i + (j + 1) by omega]⟩
theorem gpl_in (ad : Nat → Nat) : ∀ (lv : List (Option gAV)) (i j : Nat) (v : gAV), lv[j]? = some (some v) → (i + j, gv ad v) ∈ gpl ad i lv
  | [], _, j, v, h => by simp at h
  | none :: r, i, 0, v, h => by simp at h
  | some w :: r, i, 0, v, h => by
    rw [List.getElem?_cons_zero] at h
    cases h
    exact List.mem_cons_self
  | none :: r, i, j + 1, v, h => by
    rw [List.getElem?_cons_succ] at h
    have h1 := gpl_in ad r (i + 1) j v h
    rw [show i + 1 + j = i + (j + 1) by omega] at h1
    exact h1
  | some w :: r, i, j + 1, v, h => by
    rw [List.getElem?_cons_succ] at h
    have h1 := gpl_in ad r (i + 1) j v h
    rw [show i + 1 + j = i + (j + 1) by omega] at h1
    exact List.mem_cons_of_mem _ h1
def gLs (ad : Nat → Nat) (nL : Nat) (lv : List (Option gAV)) (ls : Array Slot) : Prop := lv_has ls nL (gpl ad 0 lv)
theorem gLs_at {ad : Nat → Nat} {nL : Nat} {lv : List (Option gAV)} {ls : Array Slot} (h : gLs ad nL lv ls) {i : Nat} {v : gAV} (hi : lv[i]? = some (some v)) : ls[i]? = some (.val (gv ad v)) := by
  have h1 := h.2.2 _ (gpl_in ad lv 0 i v hi)
  simpa using h1
theorem gLs_set {ad : Nat → Nat} {nL : Nat} {lv : List (Option gAV)} {ls : Array Slot} {i : Nat} {v : gAV} (h : lv_has ls nL ((i, gv ad v) :: (gpl ad 0 lv).filter (fun q => !(q.1 == i) && !(q.1 + 1 == i && q.2.category == 2)))) : gLs ad nL (lv.set i (some v)) ls := by
  refine ⟨h.1, h.2.1, fun q hq => ?_⟩
  obtain ⟨j, w, h1, h2⟩ := gpl_mem ad _ 0 q hq
  rw [Nat.zero_add] at h2
  subst h2
  by_cases e : j = i
  · subst e
    have hl : j < lv.length := by
      have := (List.getElem?_eq_some_iff.mp h1).1
      rwa [List.length_set] at this
    rw [List.getElem?_set_self hl] at h1
    cases h1
    exact h.2.2 _ List.mem_cons_self
  · rw [List.getElem?_set_ne (fun q => e q.symm)] at h1
    refine h.2.2 _ (List.mem_cons_of_mem _ (List.mem_filter.mpr ⟨?_, ?_⟩))
    · have h3 := gpl_in ad lv 0 j w h1
      rwa [Nat.zero_add] at h3
    · show (!(j == i) && !(j + 1 == i && (gv ad w).category == 2)) = true
      rw [gv_cat]
      simp [e]
theorem gLs_sub {ad : Nat → Nat} {nL : Nat} {lv lv' : List (Option gAV)} {ls : Array Slot} (h : gLs ad nL lv ls) (hs : ∀ (i : Nat) (v : gAV), lv'[i]? = some (some v) → lv[i]? = some (some v)) : gLs ad nL lv' ls := by
  refine ⟨h.1, h.2.1, fun q hq => ?_⟩
  obtain ⟨j, w, h1, h2⟩ := gpl_mem ad _ 0 q hq
  have h3 := gpl_in ad lv 0 j w (hs j w h1)
  rw [← h2] at h3
  exact h.2.2 _ h3
abbrev gOut : Type := Option gAV ⊕ Nat
/-- the exceptions by their numbers -/
def gE : Nat → String
  | 0 => "java/lang/IndexOutOfBoundsException"
  | _ => "java/lang/IllegalArgumentException"
/-- a method: its name, bytes, number of locals, words, frames and stack words that it needs -/
abbrev gM : Type := MethodName × ByteArray × Nat × List Cond × Nat × Nat × Option FieldType
abbrev gM.y (M : gM) : MethodName := M.1
abbrev gM.cc (M : gM) : ByteArray := M.2.1
abbrev gM.nL (M : gM) : Nat := M.2.2.1
abbrev gM.ws (M : gM) : List Cond := M.2.2.2.1
abbrev gM.fr (M : gM) : Nat := M.2.2.2.2.1
abbrev gM.lo (M : gM) : Nat := M.2.2.2.2.2.1
abbrev gM.ret (M : gM) : Option FieldType := M.2.2.2.2.2.2
/-- what the tables give beside the methods' own words -/
def gNest : List Cond := [.methodLinkNest RX0 17 yX6_voteOf RX6, .methodLinkNest RX1 59 yX6_ballotOf RX6, .methodLinkNest RX1 66 yX6_wordOf RX6, .methodLinkNest RX0 1 yX5_init RX6, .methodLinkNest RX1 3 yX5_init RX6, .methodLinkNest RX4 1 yX5_init RX6, .methodLinkNest RX6 15 yX4_init RX6]
def gCast : List Cond := [.castable (gE 0) (gE 0), .castable (gE 1) (gE 1), .declares (Bundle.initS "java/lang/RuntimeException"), .declares (Bundle.initS "java/lang/Exception"), .declares (Bundle.initS Bundle.tN)]
def gEnv (A : Nat → Prop) (U : State) (H : Heap) : Prop :=
  (∀ w ∈ gNest, va_Nw w U) ∧ (∀ w ∈ gCast, va_Nw w U) ∧ (∃ a, vk_R RX6 113 "n is not 0 .. 400" a U) ∧ (∃ a, vk_R RX6 192 "there is no such one" a U) ∧ (∃ a, vk_R RX6 200 "there is no such sort" a U) ∧
  vx_Zq Bundle.tN "UNASSIGNED_STACK" Bundle.steD A U H ∧ vx_Zq Bundle.tN "SUPPRESSED_SENTINEL" Bundle.listD A U H
theorem gNest_warm {s U : State} (hW : s.WarmedH U.vm) (h : ∀ w ∈ gNest, va_Nw w s) : ∀ w ∈ gNest, va_Nw w U := by
  intro w hw
  have h0 := h w hw
  unfold gNest at hw
  simp only [List.mem_cons, List.not_mem_nil, or_false] at hw
  rcases hw with rfl | rfl | rfl | rfl | rfl | rfl | rfl <;> exact va_Nw.warmM hW h0
theorem gCast_warm {s U : State} (hW : s.WarmedH U.vm) (h : ∀ w ∈ gCast, va_Nw w s) : ∀ w ∈ gCast, va_Nw w U := by
  intro w hw
  have h0 := h w hw
  unfold gCast at hw
  simp only [List.mem_cons, List.not_mem_nil, or_false] at hw
  rcases hw with rfl | rfl | rfl | rfl | rfl <;> first | exact va_Nw.warmC hW h0 | exact va_Nw.warmD hW h0
/-- seen from a callee: warmer tables, the same heap, fewer cells that may change -/
theorem gEnv.warm {A B : Nat → Prop} {s U : State} {H : Heap} (h : gEnv A s H) (hW : s.WarmedH U.vm) (hAB : ∀ q, B q → A q) : gEnv B U H := by
  obtain ⟨h1, h2, ⟨a3, h3⟩, ⟨a4, h4⟩, ⟨a5, h5⟩, h6, h7⟩ := h
  exact ⟨gNest_warm hW h1, gCast_warm hW h2, ⟨a3, h3.warm hW⟩, ⟨a4, h4.warm hW⟩, ⟨a5, h5.warm hW⟩, (h6.moved hW.alike).narrow hAB, (h7.moved hW.alike).narrow hAB⟩
theorem gEnv.kept {A : Nat → Prop} {s : State} {H H1 : Heap} (h : gEnv A s H) (hq : ∀ a : Nat, a < H.size → ¬ A a → H1[a]? = H[a]?) : gEnv A s H1 := by
  obtain ⟨h1, h2, h3, h4, h5, h6, h7⟩ := h
  exact ⟨h1, h2, h3, h4, h5, h6.kept hq, h7.kept hq⟩
theorem gEnv.step {A : Nat → Prop} {s : State} {H H1 : Heap} {locs locs1 : List Loc} (h : gEnv A s H) (hA : ∀ q, s.heap.size ≤ q → A q) (h0 : va_S A s.heap H locs) (h1 : va_S A s.heap H1 locs1) : gEnv A s H1 := by
  refine h.kept (fun a _ hn => ?_)
  have hlt : a < s.heap.size := Nat.lt_of_not_le (fun z => hn (hA a z))
  rw [h1.2.1 a hlt hn, h0.2.1 a hlt hn]
theorem gEnv.calling {A : Nat → Prop} {U : State} {H : Heap} {g : JFrame} {mk : MethodId} {a : Array Value} (h : gEnv A U H) : gEnv A (U.calling g mk a) H := by
  obtain ⟨h1, h2, ⟨a3, h3⟩, ⟨a4, h4⟩, ⟨a5, h5⟩, h6, h7⟩ := h
  have hv : (U.calling g mk a).vm = U.vm := rfl
  refine ⟨fun w hw => ?_, fun w hw => ?_, ⟨a3, h3.same hv⟩, ⟨a4, h4.same hv⟩, ⟨a5, h5.same hv⟩, h6.moved (Vm.Alike.refl U.vm), h7.moved (Vm.Alike.refl U.vm)⟩
  · have h0 := h1 w hw
    unfold gNest at hw
    simp only [List.mem_cons, List.not_mem_nil, or_false] at hw
    rcases hw with rfl | rfl | rfl | rfl | rfl | rfl | rfl <;> exact va_Nw.same rfl hv.symm h0
  · have h0 := h2 w hw
    unfold gCast at hw
    simp only [List.mem_cons, List.not_mem_nil, or_false] at hw
    rcases hw with rfl | rfl | rfl | rfl | rfl <;> exact va_Nw.same rfl hv.symm h0
/-- a method's start -/
def gPc (G : gG) (D : va_G) (cy : Nat → ClassId) (ad : Nat → Nat) (sz : Nat) (as : List gAV) (σ : gSt) : Array Value → State → Prop :=
  va_Pc (as.map (gv ad)) (fun U => U.heap.size = sz ∧ gP G D cy ad σ U.heap ∧ va_K D vwCl (gtys cy) U ∧ gEnv (gA G ad sz) U U.heap)
/-- a method's ends -/
def gQc (G : gG) (D : va_G) (cy : Nat → ClassId) (ad : Nat → Nat) (A : Nat → Prop) (Q : gOut → gSt → Prop) : Array Value → State → Outcome → State → Prop := fun _ st oc t =>
  (∃ (v : Option gAV) (σ : gSt), oc = .returned (v.map (gv ad)) ∧ Q (.inl v) σ ∧ gP G D cy ad σ t.heap) ∧ va_F A st t
def gXC (G : gG) (D : va_G) (cy : Nat → ClassId) (ad : Nat → Nat) (A : Nat → Prop) (Q : gOut → gSt → Prop) : String → State → State → Prop := fun E st t =>
  (∃ (k : Nat) (σ : gSt), E = gE k ∧ Q (.inr k) σ ∧ gP G D cy ad σ t.heap) ∧ va_F A st t
/-- THE CONTRACT: the method M, called with as in the store σ, with room for b exceptions, ends as Q says -/
def gEM (G : gG) (M : gM) (b : Nat) (as : List gAV) (σ : gSt) (Q : gOut → gSt → Prop) : Prop :=
  ∀ (l : Launch) (D : va_G) (cy : Nat → ClassId) (ad : Nat → Nat) (sz : Nat), l.stackTraces = false → gInj G ad →
    vx_Met l M.y M.ws { frames := M.fr, cells := b, slots := 6 * b, locals := M.lo } (gPc G D cy ad sz as σ) (gQc G D cy ad (gA G ad sz) Q) (gXC G D cy ad (gA G ad sz) Q) b (6 * b) (gA G ad sz)
/-- what holds all along a walk of M's body -/
def gCx (G : gG) (M : gM) (b : Nat) (p : Program) (l : Launch) (R : Room) (s : State) (m : MethodId) (args : Array Value) (meth : Method) (c : Code) (D : va_G) (cy : Nat → ClassId) (ad : Nat → Nat) (cells slots mc ms : Nat) : Prop :=
  (p.tables.exec = Jvm.exec ∧ c.code = M.cc ∧ c.maxLocals = M.nL ∧ s.vm.findClass M.y.cls = some m.cls ∧ (∀ w ∈ M.ws, w.before args s = true)) ∧ l.stackTraces = false ∧ gInj G ad ∧
  (M.fr ≤ R.frames ∧ M.lo ≤ R.locals ∧ mc ≤ R.cells ∧ ms ≤ R.slots) ∧ (∀ x ∈ c.exceptionTable.toList, False) ∧ meth.locks = false ∧ va_K D vwCl (gtys cy) s ∧ (cells + b ≤ mc ∧ slots + 6 * b ≤ ms) ∧ meth.sig.returnType = M.ret
/-- what the heap holds there -/
def gHx (G : gG) (s : State) (D : va_G) (cy : Nat → ClassId) (ad : Nat → Nat) (σ : gSt) (H : Heap) (locs : List Loc) : Prop :=
  gP G D cy ad σ H ∧ va_S (gA G ad s.heap.size) s.heap H locs ∧ gEnv (gA G ad s.heap.size) s H
/-- FROM HERE: M's body at pc, with the locals lv and the operands st, in the store σ, comes to an end that Q allows -/
def gEx (G : gG) (M : gM) (b : Nat) (pc : Nat) (lv : List (Option gAV)) (st : List gAV) (σ : gSt) (Q : gOut → gSt → Prop) : Prop :=
  ∀ (p : Program) (l : Launch) (e : Env) (R : Room) (s : State) (m : MethodId) (args : Array Value) (below : List Frame) (meth : Method) (c : Code) (D : va_G) (cy : Nat → ClassId) (ad : Nat → Nat) (H : Heap) (locs : List Loc) (cells slots mc ms : Nat) (ls : Array Slot),
    gCx G M b p l R s m args meth c D cy ad cells slots mc ms → gHx G s D cy ad σ H locs → gLs ad M.nL lv ls →
    W p l e R s m args below meth c H locs cells slots (vx_MQ below (gQc G D cy ad (gA G ad s.heap.size) Q) (gXC G D cy ad (gA G ad s.heap.size) Q) args s mc ms (gA G ad s.heap.size)) (F0 m pc ls (st.map (gv ad)))
theorem gEx.eq {G : gG} {M : gM} {b pc : Nat} {lv lv' : List (Option gAV)} {st st' : List gAV} {σ σ' : gSt} {Q : gOut → gSt → Prop} (h1 : lv = lv') (h2 : st = st') (h3 : σ = σ') (k : gEx G M b pc lv' st' σ' Q) : gEx G M b pc lv st σ Q := by
  subst h1; subst h2; subst h3; exact k
/-- the locals with which a method begins -/
def gL0 (as : List gAV) (nL : Nat) : List (Option gAV) := as.map some ++ List.replicate (nL - as.length) none
theorem gsl (ad : Nat → Nat) : ∀ as : List gAV, lg_sl (as.map (gv ad)) = as.map (fun a => Slot.val (gv ad a))
  | [] => rfl
  | a :: as => by
    have h := gsl ad as
    unfold lg_sl at h ⊢
    rw [List.map_cons, List.flatMap_cons, h, gv_cat]
    rfl
theorem gar (ad : Nat → Nat) : ∀ (as : List gAV) (i j : Nat) (v : gAV), as[j]? = some v → (i + j, gv ad v) ∈ lv_args i (as.map (gv ad))
  | [], _, j, v, h => by simp at h
  | a :: as, i, 0, v, h => by
    rw [List.getElem?_cons_zero] at h
    cases h
    exact List.mem_cons_self
  | a :: as, i, j + 1, v, h => by
    rw [List.getElem?_cons_succ] at h
    have h1 := gar ad as (i + 1) j v h
    rw [show i + 1 + j = i + (j + 1) by omega] at h1
    show _ ∈ (i, gv ad a) :: lv_args (if (gv ad a).category = 2 then i + 2 else i + 1) (as.map (gv ad))
    rw [gv_cat]
    exact List.mem_cons_of_mem _ h1
theorem gLs_0 {ad : Nat → Nat} {as : List gAV} {nL : Nat} (h : as.length ≤ nL) : gLs ad nL (gL0 as nL) ((lg_sl (as.map (gv ad)) ++ List.replicate (nL - (lg_sl (as.map (gv ad))).length) Slot.unset).toArray) := by
  have hlen : (lg_sl (as.map (gv ad))).length = as.length := by rw [gsl, List.length_map]
  have h1 := lv_entry (as.map (gv ad)) (n := nL) (by rw [hlen]; exact h)
  refine ⟨h1.1, h1.2.1, fun q hq => ?_⟩
  obtain ⟨j, v, h2, h3⟩ := gpl_mem ad _ 0 q hq
  unfold gL0 at h2
  have h4 : as[j]? = some v := by
    by_cases hj : j < (as.map some).length
    · rw [List.getElem?_append_left hj, List.getElem?_map] at h2
      cases ha : as[j]? with
      | none => rw [ha] at h2; cases h2
      | some w => rw [ha] at h2; cases h2; rfl
    · rw [List.getElem?_append_right (by omega)] at h2
      have h5 := List.mem_of_getElem? h2
      have := (List.mem_replicate.mp h5).2
      cases this
  rw [h3]
  exact h1.2.2 _ (gar ad as 0 j v h4)
theorem gEM_of {G : gG} {M : gM} {b : Nat} {as : List gAV} {σ : gSt} {Q : gOut → gSt → Prop} {ws' : List Cond} (hy : plainName M.y.cls = true) (hw : M.ws = Cond.code M.y M.cc M.nL M.ret :: ws') (hn : as.length ≤ M.nL)
    (k : gEx G M b 0 (gL0 as M.nL) [] σ Q) : gEM G M b as σ Q := by
  intro l D cy ad sz hl hi
  refine vx_ofW (cc := M.cc) (maxL := M.nL) (ret := M.ret) hy hw ?_
  intro p e s m args below meth c s₁ B hml ht hv
  obtain ⟨hargs, hsz, hP, hK, hE⟩ := hv
  subst hsz
  subst hargs
  rw [lg_entry_eq]
  exact k p l e _ s m _ below meth c D cy ad s.heap [] 0 0 b (6 * b) _ ⟨⟨B.exec, B.bytes, hml, findClass_of_methodNamed B.named, atoms_spec (ws := M.ws) B.pre⟩, hl, hi, ⟨Nat.le_refl _, Nat.le_refl _, Nat.le_refl _, Nat.le_refl _⟩, ht, B.notSynchronized, hK, by omega, B.returns⟩ ⟨hP, va_S.rf, hE⟩ (gLs_0 hn)
theorem gEM_mono {G : gG} {M : gM} {b : Nat} {as : List gAV} {σ : gSt} {Q Q' : gOut → gSt → Prop} (h : gEM G M b as σ Q) (hq : ∀ o σ', Q o σ' → Q' o σ') : gEM G M b as σ Q' := by
  intro l D cy ad sz hl hi p e ha hc hk s m args below hf happ hP hK
  obtain ⟨n, o, h1, h2, h3, h4⟩ := h l D cy ad sz hl hi p e ha hc hk s m args below hf happ hP hK
  refine ⟨n, o, h1, h2, h3, ?_⟩
  rcases h4 with ⟨⟨⟨v, σ1, e1, e2, e3⟩, e4⟩, e5⟩ | ⟨q, e1, E, ce, L, ⟨⟨k, σ1, f1, f2, f3⟩, f4⟩, f5⟩
  · exact Or.inl ⟨⟨⟨v, σ1, e1, hq _ _ e2, e3⟩, e4⟩, e5⟩
  · exact Or.inr ⟨q, e1, E, ce, L, ⟨⟨k, σ1, f1, hq _ _ f2, f3⟩, f4⟩, f5⟩
end
section
section GR
variable {G : gG} {M : gM} {b pc : Nat} {lv : List (Option gAV)} {st : List gAV} {σ : gSt} {Q : gOut → gSt → Prop}
theorem g_iconst {n : Int} (v : Int32) (d : decode M.cc pc = .ok (.iconst n, 1)) (hv : Int32.ofInt n = v) (k : gEx G M b (pc + 1) lv (.inl v :: st) σ Q) : gEx G M b pc lv st σ Q := by
  intro p l e R s m args below meth c D cy ad H locs cells slots mc ms ls C X L
  exact lv_iconst C.1.1 C.1.2.1 d hv (k p l e R s m args below meth c D cy ad H locs cells slots mc ms ls C X L)
theorem g_bipush {n : Int} (v : Int32) (d : decode M.cc pc = .ok (.bipush n, 2)) (hv : (Int8.ofInt n).toInt32 = v) (k : gEx G M b (pc + 2) lv (.inl v :: st) σ Q) : gEx G M b pc lv st σ Q := by
  intro p l e R s m args below meth c D cy ad H locs cells slots mc ms ls C X L
  exact lv_bipush C.1.1 C.1.2.1 d hv (k p l e R s m args below meth c D cy ad H locs cells slots mc ms ls C X L)
theorem g_sipush {n : Int} (v : Int32) (d : decode M.cc pc = .ok (.sipush n, 3)) (hv : (Int16.ofInt n).toInt32 = v) (k : gEx G M b (pc + 3) lv (.inl v :: st) σ Q) : gEx G M b pc lv st σ Q := by
  intro p l e R s m args below meth c D cy ad H locs cells slots mc ms ls C X L
  exact lv_sipush C.1.1 C.1.2.1 d hv (k p l e R s m args below meth c D cy ad H locs cells slots mc ms ls C X L)
theorem g_iload_n {i : Fin 4} {x : Int32} (d : decode M.cc pc = .ok (.iload_n i, 1)) (h : lv[(i : Nat)]? = some (some (.inl x))) (k : gEx G M b (pc + 1) lv (.inl x :: st) σ Q) : gEx G M b pc lv st σ Q := by
  intro p l e R s m args below meth c D cy ad H locs cells slots mc ms ls C X L
  exact lv_iload_n C.1.1 C.1.2.1 d rfl (gLs_at L h) (k p l e R s m args below meth c D cy ad H locs cells slots mc ms ls C X L)
theorem g_iload {i : Nat} {x : Int32} (d : decode M.cc pc = .ok (.iload i, 2)) (h : lv[i]? = some (some (.inl x))) (k : gEx G M b (pc + 2) lv (.inl x :: st) σ Q) : gEx G M b pc lv st σ Q := by
  intro p l e R s m args below meth c D cy ad H locs cells slots mc ms ls C X L
  exact lv_iload C.1.1 C.1.2.1 d (gLs_at L h) (k p l e R s m args below meth c D cy ad H locs cells slots mc ms ls C X L)
theorem g_aload_n {i : Fin 4} {x : Nat} (d : decode M.cc pc = .ok (.aload_n i, 1)) (h : lv[(i : Nat)]? = some (some (.inr x))) (k : gEx G M b (pc + 1) lv (.inr x :: st) σ Q) : gEx G M b pc lv st σ Q := by
  intro p l e R s m args below meth c D cy ad H locs cells slots mc ms ls C X L
  exact lv_aload_n C.1.1 C.1.2.1 d rfl (gLs_at L h) (k p l e R s m args below meth c D cy ad H locs cells slots mc ms ls C X L)
theorem g_aload {i : Nat} {x : Nat} (d : decode M.cc pc = .ok (.aload i, 2)) (h : lv[i]? = some (some (.inr x))) (k : gEx G M b (pc + 2) lv (.inr x :: st) σ Q) : gEx G M b pc lv st σ Q := by
  intro p l e R s m args below meth c D cy ad H locs cells slots mc ms ls C X L
  exact lv_aload C.1.1 C.1.2.1 d (gLs_at L h) (k p l e R s m args below meth c D cy ad H locs cells slots mc ms ls C X L)
theorem g_istore_n {i : Fin 4} {x : Int32} (d : decode M.cc pc = .ok (.istore_n i, 1)) (hn : (i : Nat) < M.nL) (k : gEx G M b (pc + 1) (lv.set i (some (.inl x))) st σ Q) : gEx G M b pc lv (.inl x :: st) σ Q := by
  intro p l e R s m args below meth c D cy ad H locs cells slots mc ms ls C X L
  exact lv_istore_n (lv := gpl ad 0 lv) C.1.1 C.1.2.1 d rfl L hn rfl (fun ls1 h1 => k p l e R s m args below meth c D cy ad H locs cells slots mc ms ls1 C X (gLs_set h1))
theorem g_istore {i : Nat} {x : Int32} (d : decode M.cc pc = .ok (.istore i, 2)) (hn : i < M.nL) (k : gEx G M b (pc + 2) (lv.set i (some (.inl x))) st σ Q) : gEx G M b pc lv (.inl x :: st) σ Q := by
  intro p l e R s m args below meth c D cy ad H locs cells slots mc ms ls C X L
  exact lv_istore (lv := gpl ad 0 lv) C.1.1 C.1.2.1 d L hn rfl (fun ls1 h1 => k p l e R s m args below meth c D cy ad H locs cells slots mc ms ls1 C X (gLs_set h1))
theorem g_astore_n {i : Fin 4} {x : Nat} (d : decode M.cc pc = .ok (.astore_n i, 1)) (hn : (i : Nat) < M.nL) (k : gEx G M b (pc + 1) (lv.set i (some (.inr x))) st σ Q) : gEx G M b pc lv (.inr x :: st) σ Q := by
  intro p l e R s m args below meth c D cy ad H locs cells slots mc ms ls C X L
  exact lv_astore_n (lv := gpl ad 0 lv) C.1.1 C.1.2.1 d rfl L hn rfl (fun ls1 h1 => k p l e R s m args below meth c D cy ad H locs cells slots mc ms ls1 C X (gLs_set h1))
theorem g_astore {i : Nat} {x : Nat} (d : decode M.cc pc = .ok (.astore i, 2)) (hn : i < M.nL) (k : gEx G M b (pc + 2) (lv.set i (some (.inr x))) st σ Q) : gEx G M b pc lv (.inr x :: st) σ Q := by
  intro p l e R s m args below meth c D cy ad H locs cells slots mc ms ls C X L
  exact lv_astore (lv := gpl ad 0 lv) C.1.1 C.1.2.1 d L hn rfl (fun ls1 h1 => k p l e R s m args below meth c D cy ad H locs cells slots mc ms ls1 C X (gLs_set h1))
theorem g_iinc {i : Nat} {n : Int} {x : Int32} (v : Int32) (d : decode M.cc pc = .ok (.iinc i n, 3)) (h : lv[i]? = some (some (.inl x))) (hv : x + Int32.ofInt n = v) (hn : i < M.nL) (k : gEx G M b (pc + 3) (lv.set i (some (.inl v))) st σ Q) : gEx G M b pc lv st σ Q := by
  intro p l e R s m args below meth c D cy ad H locs cells slots mc ms ls C X L
  have h0 := gpl_in ad lv 0 i _ h
  rw [Nat.zero_add] at h0
  obtain ⟨j, hj⟩ := List.getElem?_of_mem h0
  exact lv_iinc (v := v) (lv := gpl ad 0 lv) C.1.1 C.1.2.1 d L hj hv hn rfl (fun ls1 h1 => k p l e R s m args below meth c D cy ad H locs cells slots mc ms ls1 C X (gLs_set (v := .inl v) h1))
theorem g_iadd {x y : Int32} (d : decode M.cc pc = .ok (.iadd, 1)) (k : gEx G M b (pc + 1) lv (.inl (x + y) :: st) σ Q) : gEx G M b pc lv (.inl y :: .inl x :: st) σ Q := by
  intro p l e R s m args below meth c D cy ad H locs cells slots mc ms ls C X L
  exact lv_iadd C.1.1 C.1.2.1 d (k p l e R s m args below meth c D cy ad H locs cells slots mc ms ls C X L)
theorem g_isub {x y : Int32} (d : decode M.cc pc = .ok (.isub, 1)) (k : gEx G M b (pc + 1) lv (.inl (x - y) :: st) σ Q) : gEx G M b pc lv (.inl y :: .inl x :: st) σ Q := by
  intro p l e R s m args below meth c D cy ad H locs cells slots mc ms ls C X L
  exact lv_isub C.1.1 C.1.2.1 d (k p l e R s m args below meth c D cy ad H locs cells slots mc ms ls C X L)
theorem g_imul {x y : Int32} (d : decode M.cc pc = .ok (.imul, 1)) (k : gEx G M b (pc + 1) lv (.inl (x * y) :: st) σ Q) : gEx G M b pc lv (.inl y :: .inl x :: st) σ Q := by
  intro p l e R s m args below meth c D cy ad H locs cells slots mc ms ls C X L
  exact lv_imul C.1.1 C.1.2.1 d (k p l e R s m args below meth c D cy ad H locs cells slots mc ms ls C X L)
theorem g_iand {x y : Int32} (d : decode M.cc pc = .ok (.iand, 1)) (k : gEx G M b (pc + 1) lv (.inl (x &&& y) :: st) σ Q) : gEx G M b pc lv (.inl y :: .inl x :: st) σ Q := by
  intro p l e R s m args below meth c D cy ad H locs cells slots mc ms ls C X L
  exact lv_iand C.1.1 C.1.2.1 d (k p l e R s m args below meth c D cy ad H locs cells slots mc ms ls C X L)
theorem g_ior {x y : Int32} (d : decode M.cc pc = .ok (.ior, 1)) (k : gEx G M b (pc + 1) lv (.inl (x ||| y) :: st) σ Q) : gEx G M b pc lv (.inl y :: .inl x :: st) σ Q := by
  intro p l e R s m args below meth c D cy ad H locs cells slots mc ms ls C X L
  exact lv_ior C.1.1 C.1.2.1 d (k p l e R s m args below meth c D cy ad H locs cells slots mc ms ls C X L)
theorem g_ixor {x y : Int32} (d : decode M.cc pc = .ok (.ixor, 1)) (k : gEx G M b (pc + 1) lv (.inl (x ^^^ y) :: st) σ Q) : gEx G M b pc lv (.inl y :: .inl x :: st) σ Q := by
  intro p l e R s m args below meth c D cy ad H locs cells slots mc ms ls C X L
  exact lv_ixor C.1.1 C.1.2.1 d (k p l e R s m args below meth c D cy ad H locs cells slots mc ms ls C X L)
theorem g_ishl {x y : Int32} (d : decode M.cc pc = .ok (.ishl, 1)) (k : gEx G M b (pc + 1) lv (.inl (x <<< (y &&& 31)) :: st) σ Q) : gEx G M b pc lv (.inl y :: .inl x :: st) σ Q := by
  intro p l e R s m args below meth c D cy ad H locs cells slots mc ms ls C X L
  exact lv_ishl C.1.1 C.1.2.1 d (k p l e R s m args below meth c D cy ad H locs cells slots mc ms ls C X L)
theorem g_ishr {x y : Int32} (d : decode M.cc pc = .ok (.ishr, 1)) (k : gEx G M b (pc + 1) lv (.inl (x >>> (y &&& 31)) :: st) σ Q) : gEx G M b pc lv (.inl y :: .inl x :: st) σ Q := by
  intro p l e R s m args below meth c D cy ad H locs cells slots mc ms ls C X L
  exact lv_ishr C.1.1 C.1.2.1 d (k p l e R s m args below meth c D cy ad H locs cells slots mc ms ls C X L)
theorem g_idiv {x y : Int32} (d : decode M.cc pc = .ok (.idiv, 1)) (hne : ¬ y = 0) (k : gEx G M b (pc + 1) lv (.inl (x / y) :: st) σ Q) : gEx G M b pc lv (.inl y :: .inl x :: st) σ Q := by
  intro p l e R s m args below meth c D cy ad H locs cells slots mc ms ls C X L
  exact lv_idiv C.1.1 C.1.2.1 d hne (k p l e R s m args below meth c D cy ad H locs cells slots mc ms ls C X L)
theorem g_irem {x y : Int32} (d : decode M.cc pc = .ok (.irem, 1)) (hne : ¬ y = 0) (k : gEx G M b (pc + 1) lv (.inl (x - x / y * y) :: st) σ Q) : gEx G M b pc lv (.inl y :: .inl x :: st) σ Q := by
  intro p l e R s m args below meth c D cy ad H locs cells slots mc ms ls C X L
  exact lv_irem C.1.1 C.1.2.1 d hne (k p l e R s m args below meth c D cy ad H locs cells slots mc ms ls C X L)
theorem g_iushr {x y : Int32} (d : decode M.cc pc = .ok (.iushr, 1)) (k : gEx G M b (pc + 1) lv (.inl ((x.toUInt32 >>> (y.toUInt32 &&& Int32.toUInt32 31)).toInt32) :: st) σ Q) : gEx G M b pc lv (.inl y :: .inl x :: st) σ Q := by
  intro p l e R s m args below meth c D cy ad H locs cells slots mc ms ls C X L
  exact lv_iushr C.1.1 C.1.2.1 d rfl (k p l e R s m args below meth c D cy ad H locs cells slots mc ms ls C X L)
theorem g_ineg {x : Int32} (d : decode M.cc pc = .ok (.ineg, 1)) (k : gEx G M b (pc + 1) lv (.inl (-x) :: st) σ Q) : gEx G M b pc lv (.inl x :: st) σ Q := by
  intro p l e R s m args below meth c D cy ad H locs cells slots mc ms ls C X L
  exact lv_ineg C.1.1 C.1.2.1 d (k p l e R s m args below meth c D cy ad H locs cells slots mc ms ls C X L)
theorem g_dup {x : gAV} (d : decode M.cc pc = .ok (.dup, 1)) (k : gEx G M b (pc + 1) lv (x :: x :: st) σ Q) : gEx G M b pc lv (x :: st) σ Q := by
  intro p l e R s m args below meth c D cy ad H locs cells slots mc ms ls C X L
  exact lv_dup C.1.1 C.1.2.1 d (gv_cat ad x) (k p l e R s m args below meth c D cy ad H locs cells slots mc ms ls C X L)
theorem g_pop {x : gAV} (d : decode M.cc pc = .ok (.pop, 1)) (k : gEx G M b (pc + 1) lv st σ Q) : gEx G M b pc lv (x :: st) σ Q := by
  intro p l e R s m args below meth c D cy ad H locs cells slots mc ms ls C X L
  exact lv_pop C.1.1 C.1.2.1 d (gv_cat ad x) (k p l e R s m args below meth c D cy ad H locs cells slots mc ms ls C X L)
theorem g_dup2 {x y : gAV} (d : decode M.cc pc = .ok (.dup2, 1)) (k : gEx G M b (pc + 1) lv (x :: y :: x :: y :: st) σ Q) : gEx G M b pc lv (x :: y :: st) σ Q := by
  intro p l e R s m args below meth c D cy ad H locs cells slots mc ms ls C X L
  exact lv_dup2_11 C.1.1 C.1.2.1 d (gv_cat ad x) (gv_cat ad y) (k p l e R s m args below meth c D cy ad H locs cells slots mc ms ls C X L)
theorem g_goto {off : Int} (tgt : Nat) (d : decode M.cc pc = .ok (.goto off, 3)) (ht : (pc : Int) + off = (tgt : Int)) (k : gEx G M b tgt lv st σ Q) : gEx G M b pc lv st σ Q := by
  intro p l e R s m args below meth c D cy ad H locs cells slots mc ms ls C X L
  exact lv_goto C.1.1 C.1.2.1 d ht (k p l e R s m args below meth c D cy ad H locs cells slots mc ms ls C X L)
theorem g_icmp_eq {x y : Int32} {off : Int} (tgt : Nat) (d : decode M.cc pc = .ok (.if_icmp .eq off, 3)) (ht : (pc : Int) + off = (tgt : Int)) (kt : x = y → gEx G M b tgt lv st σ Q) (kf : ¬ (x = y) → gEx G M b (pc + 3) lv st σ Q) : gEx G M b pc lv (.inl y :: .inl x :: st) σ Q := by
  intro p l e R s m args below meth c D cy ad H locs cells slots mc ms ls C X L
  exact lv_icmp_eq C.1.1 C.1.2.1 d ht (fun h => kt (by first | exact h | simpa using h) p l e R s m args below meth c D cy ad H locs cells slots mc ms ls C X L) (fun h => kf (by first | exact h | simpa using h) p l e R s m args below meth c D cy ad H locs cells slots mc ms ls C X L)
theorem g_if_eq {x : Int32} {off : Int} (tgt : Nat) (d : decode M.cc pc = .ok (.ifCond .eq off, 3)) (ht : (pc : Int) + off = (tgt : Int)) (kt : x = 0 → gEx G M b tgt lv st σ Q) (kf : ¬ (x = 0) → gEx G M b (pc + 3) lv st σ Q) : gEx G M b pc lv (.inl x :: st) σ Q := by
  intro p l e R s m args below meth c D cy ad H locs cells slots mc ms ls C X L
  exact lv_if_eq C.1.1 C.1.2.1 d ht (fun h => kt (by first | exact h | simpa using h) p l e R s m args below meth c D cy ad H locs cells slots mc ms ls C X L) (fun h => kf (by first | exact h | simpa using h) p l e R s m args below meth c D cy ad H locs cells slots mc ms ls C X L)
theorem g_icmp_ne {x y : Int32} {off : Int} (tgt : Nat) (d : decode M.cc pc = .ok (.if_icmp .ne off, 3)) (ht : (pc : Int) + off = (tgt : Int)) (kt : ¬ x = y → gEx G M b tgt lv st σ Q) (kf : ¬ (¬ x = y) → gEx G M b (pc + 3) lv st σ Q) : gEx G M b pc lv (.inl y :: .inl x :: st) σ Q := by
  intro p l e R s m args below meth c D cy ad H locs cells slots mc ms ls C X L
  exact lv_icmp_ne C.1.1 C.1.2.1 d ht (fun h => kt (by first | exact h | simpa using h) p l e R s m args below meth c D cy ad H locs cells slots mc ms ls C X L) (fun h => kf (by first | exact h | simpa using h) p l e R s m args below meth c D cy ad H locs cells slots mc ms ls C X L)
theorem g_if_ne {x : Int32} {off : Int} (tgt : Nat) (d : decode M.cc pc = .ok (.ifCond .ne off, 3)) (ht : (pc : Int) + off = (tgt : Int)) (kt : ¬ x = 0 → gEx G M b tgt lv st σ Q) (kf : ¬ (¬ x = 0) → gEx G M b (pc + 3) lv st σ Q) : gEx G M b pc lv (.inl x :: st) σ Q := by
  intro p l e R s m args below meth c D cy ad H locs cells slots mc ms ls C X L
  exact lv_if_ne C.1.1 C.1.2.1 d ht (fun h => kt (by first | exact h | simpa using h) p l e R s m args below meth c D cy ad H locs cells slots mc ms ls C X L) (fun h => kf (by first | exact h | simpa using h) p l e R s m args below meth c D cy ad H locs cells slots mc ms ls C X L)
theorem g_icmp_lt {x y : Int32} {off : Int} (tgt : Nat) (d : decode M.cc pc = .ok (.if_icmp .lt off, 3)) (ht : (pc : Int) + off = (tgt : Int)) (kt : x < y → gEx G M b tgt lv st σ Q) (kf : ¬ (x < y) → gEx G M b (pc + 3) lv st σ Q) : gEx G M b pc lv (.inl y :: .inl x :: st) σ Q := by
  intro p l e R s m args below meth c D cy ad H locs cells slots mc ms ls C X L
  exact lv_icmp_lt C.1.1 C.1.2.1 d ht (fun h => kt (by first | exact h | simpa using h) p l e R s m args below meth c D cy ad H locs cells slots mc ms ls C X L) (fun h => kf (by first | exact h | simpa using h) p l e R s m args below meth c D cy ad H locs cells slots mc ms ls C X L)
theorem g_if_lt {x : Int32} {off : Int} (tgt : Nat) (d : decode M.cc pc = .ok (.ifCond .lt off, 3)) (ht : (pc : Int) + off = (tgt : Int)) (kt : x < 0 → gEx G M b tgt lv st σ Q) (kf : ¬ (x < 0) → gEx G M b (pc + 3) lv st σ Q) : gEx G M b pc lv (.inl x :: st) σ Q := by
  intro p l e R s m args below meth c D cy ad H locs cells slots mc ms ls C X L
  exact lv_if_lt C.1.1 C.1.2.1 d ht (fun h => kt (by first | exact h | simpa using h) p l e R s m args below meth c D cy ad H locs cells slots mc ms ls C X L) (fun h => kf (by first | exact h | simpa using h) p l e R s m args below meth c D cy ad H locs cells slots mc ms ls C X L)
theorem g_icmp_ge {x y : Int32} {off : Int} (tgt : Nat) (d : decode M.cc pc = .ok (.if_icmp .ge off, 3)) (ht : (pc : Int) + off = (tgt : Int)) (kt : y ≤ x → gEx G M b tgt lv st σ Q) (kf : ¬ (y ≤ x) → gEx G M b (pc + 3) lv st σ Q) : gEx G M b pc lv (.inl y :: .inl x :: st) σ Q := by
  intro p l e R s m args below meth c D cy ad H locs cells slots mc ms ls C X L
  exact lv_icmp_ge C.1.1 C.1.2.1 d ht (fun h => kt (by first | exact h | simpa using h) p l e R s m args below meth c D cy ad H locs cells slots mc ms ls C X L) (fun h => kf (by first | exact h | simpa using h) p l e R s m args below meth c D cy ad H locs cells slots mc ms ls C X L)
theorem g_if_ge {x : Int32} {off : Int} (tgt : Nat) (d : decode M.cc pc = .ok (.ifCond .ge off, 3)) (ht : (pc : Int) + off = (tgt : Int)) (kt : 0 ≤ x → gEx G M b tgt lv st σ Q) (kf : ¬ (0 ≤ x) → gEx G M b (pc + 3) lv st σ Q) : gEx G M b pc lv (.inl x :: st) σ Q := by
  intro p l e R s m args below meth c D cy ad H locs cells slots mc ms ls C X L
  exact lv_if_ge C.1.1 C.1.2.1 d ht (fun h => kt (by first | exact h | simpa using h) p l e R s m args below meth c D cy ad H locs cells slots mc ms ls C X L) (fun h => kf (by first | exact h | simpa using h) p l e R s m args below meth c D cy ad H locs cells slots mc ms ls C X L)
theorem g_icmp_gt {x y : Int32} {off : Int} (tgt : Nat) (d : decode M.cc pc = .ok (.if_icmp .gt off, 3)) (ht : (pc : Int) + off = (tgt : Int)) (kt : y < x → gEx G M b tgt lv st σ Q) (kf : ¬ (y < x) → gEx G M b (pc + 3) lv st σ Q) : gEx G M b pc lv (.inl y :: .inl x :: st) σ Q := by
  intro p l e R s m args below meth c D cy ad H locs cells slots mc ms ls C X L
  exact lv_icmp_gt C.1.1 C.1.2.1 d ht (fun h => kt (by first | exact h | simpa using h) p l e R s m args below meth c D cy ad H locs cells slots mc ms ls C X L) (fun h => kf (by first | exact h | simpa using h) p l e R s m args below meth c D cy ad H locs cells slots mc ms ls C X L)
theorem g_if_gt {x : Int32} {off : Int} (tgt : Nat) (d : decode M.cc pc = .ok (.ifCond .gt off, 3)) (ht : (pc : Int) + off = (tgt : Int)) (kt : 0 < x → gEx G M b tgt lv st σ Q) (kf : ¬ (0 < x) → gEx G M b (pc + 3) lv st σ Q) : gEx G M b pc lv (.inl x :: st) σ Q := by
  intro p l e R s m args below meth c D cy ad H locs cells slots mc ms ls C X L
  exact lv_if_gt C.1.1 C.1.2.1 d ht (fun h => kt (by first | exact h | simpa using h) p l e R s m args below meth c D cy ad H locs cells slots mc ms ls C X L) (fun h => kf (by first | exact h | simpa using h) p l e R s m args below meth c D cy ad H locs cells slots mc ms ls C X L)
theorem g_icmp_le {x y : Int32} {off : Int} (tgt : Nat) (d : decode M.cc pc = .ok (.if_icmp .le off, 3)) (ht : (pc : Int) + off = (tgt : Int)) (kt : x ≤ y → gEx G M b tgt lv st σ Q) (kf : ¬ (x ≤ y) → gEx G M b (pc + 3) lv st σ Q) : gEx G M b pc lv (.inl y :: .inl x :: st) σ Q := by
  intro p l e R s m args below meth c D cy ad H locs cells slots mc ms ls C X L
  exact lv_icmp_le C.1.1 C.1.2.1 d ht (fun h => kt (by first | exact h | simpa using h) p l e R s m args below meth c D cy ad H locs cells slots mc ms ls C X L) (fun h => kf (by first | exact h | simpa using h) p l e R s m args below meth c D cy ad H locs cells slots mc ms ls C X L)
theorem g_if_le {x : Int32} {off : Int} (tgt : Nat) (d : decode M.cc pc = .ok (.ifCond .le off, 3)) (ht : (pc : Int) + off = (tgt : Int)) (kt : x ≤ 0 → gEx G M b tgt lv st σ Q) (kf : ¬ (x ≤ 0) → gEx G M b (pc + 3) lv st σ Q) : gEx G M b pc lv (.inl x :: st) σ Q := by
  intro p l e R s m args below meth c D cy ad H locs cells slots mc ms ls C X L
  exact lv_if_le C.1.1 C.1.2.1 d ht (fun h => kt (by first | exact h | simpa using h) p l e R s m args below meth c D cy ad H locs cells slots mc ms ls C X L) (fun h => kf (by first | exact h | simpa using h) p l e R s m args below meth c D cy ad H locs cells slots mc ms ls C X L)
theorem g_tableIn {dflt lo hi : Int} {offs : Array Int} {len : Nat} {x : Int32} {off : Int} (tgt : Nat) (d : decode M.cc pc = .ok (.tableswitch dflt lo hi offs, len)) (h1 : ¬ x.toInt < lo) (h2 : ¬ hi < x.toInt) (ho : offs[(x.toInt - lo).toNat]? = some off) (ht : (pc : Int) + off = (tgt : Int)) (k : gEx G M b tgt lv st σ Q) : gEx G M b pc lv (.inl x :: st) σ Q := by
  intro p l e R s m args below meth c D cy ad H locs cells slots mc ms ls C X L
  exact lv_tableIn C.1.1 C.1.2.1 d h1 h2 ho ht (k p l e R s m args below meth c D cy ad H locs cells slots mc ms ls C X L)
theorem g_tableOut {dflt lo hi : Int} {offs : Array Int} {len : Nat} {x : Int32} (tgt : Nat) (d : decode M.cc pc = .ok (.tableswitch dflt lo hi offs, len)) (h : x.toInt < lo ∨ hi < x.toInt) (ht : (pc : Int) + dflt = (tgt : Int)) (k : gEx G M b tgt lv st σ Q) : gEx G M b pc lv (.inl x :: st) σ Q := by
  intro p l e R s m args below meth c D cy ad H locs cells slots mc ms ls C X L
  exact lv_tableOut C.1.1 C.1.2.1 d h ht (k p l e R s m args below meth c D cy ad H locs cells slots mc ms ls C X L)
theorem g_lookup {dflt : Int} {ps : Array (Int × Int)} {len : Nat} {x : Int32} {off : Int} (tgt : Nat) (d : decode M.cc pc = .ok (.lookupswitch dflt ps, len)) (hp : (ps.toList.zip (ps.toList.drop 1)).all (fun (a, next) => a.1 < next.1) = true) (ho : Op.lookupswitch.offset ps.toList dflt x.toInt = off) (ht : (pc : Int) + off = (tgt : Int)) (k : gEx G M b tgt lv st σ Q) : gEx G M b pc lv (.inl x :: st) σ Q := by
  intro p l e R s m args below meth c D cy ad H locs cells slots mc ms ls C X L
  exact lv_lookup C.1.1 C.1.2.1 d hp ho ht (k p l e R s m args below meth c D cy ad H locs cells slots mc ms ls C X L)
theorem g_ldc {i : Nat} (v : Int32) (d : decode M.cc pc = .ok (.ldc i, 2)) (hw : Cond.constant M.y.cls i v ∈ M.ws) (k : gEx G M b (pc + 2) lv (.inl v :: st) σ Q) : gEx G M b pc lv st σ Q := by
  intro p l e R s m args below meth c D cy ad H locs cells slots mc ms ls C X L
  exact lv_ldc C.1.1 C.1.2.1 C.1.2.2.2.1 (C.1.2.2.2.2 _ hw) d (k p l e R s m args below meth c D cy ad H locs cells slots mc ms ls C X L)
/-- a field that holds an int -/
theorem g_get {i o ci : Nat} {fs : List (Option Nat)} {ref Cn : String} {T : u_T} {N : Nat} (j : Nat) (d : decode M.cc pc = .ok (.getfield i, 3)) (ho : o ∈ G.1) (hs : G.2 o = .inr (ci, fs)) (hc : vwCl[ci]? = some (Cn, T, N)) (hin : ∀ w ∈ u_ws Cn T N, w ∈ M.ws) (hj : j < N)
    (hl : Cond.fieldLink M.y.cls i ref (T j).2.1 (T j).2.2.1 ∈ M.ws) (hsame : ref = (T j).1 ∨ Cond.sameField ref (T j).1 (T j).2.1 (T j).2.2.1 ∈ M.ws) (hf : fs[j]? = some none) (k : gEx G M b (pc + 3) lv (.inl (σ o j) :: st) σ Q) : gEx G M b pc lv (.inr o :: st) σ Q := by
  intro p l e R s m args below meth c D cy ad H locs cells slots mc ms ls C X L
  obtain ⟨i0, -, hw⟩ := gws_at (cy := cy) (ad := ad) (σ := σ) ho hs
  refine va_get (D := D) (ws := gws G cy ad σ) (tys := gtys cy) (v := .int (σ o j)) C.1.1 C.1.2.1 C.1.2.2.2.2 hin C.1.2.2.2.1 C.2.2.2.2.2.2.1 (gws_P X.1) i0 hw hc j hj (C.1.2.2.2.2 _ hl) (fun x hx => ?_) ?_ d (k p l e R s m args below meth c D cy ad H locs cells slots mc ms ls C X L)
  · rcases hsame with h | h
    · rw [h]; exact hx
    · exact u_same (C.1.2.2.2.2 _ h) x hx
  · have h1 := gfl_int ad (σ o) fs 0 j hf
    rwa [Nat.zero_add] at h1
/-- a field that names a cell -/
theorem g_getr {i o t ci : Nat} {fs : List (Option Nat)} {ref Cn : String} {T : u_T} {N : Nat} (j : Nat) (d : decode M.cc pc = .ok (.getfield i, 3)) (ho : o ∈ G.1) (hs : G.2 o = .inr (ci, fs)) (hc : vwCl[ci]? = some (Cn, T, N)) (hin : ∀ w ∈ u_ws Cn T N, w ∈ M.ws) (hj : j < N)
    (hl : Cond.fieldLink M.y.cls i ref (T j).2.1 (T j).2.2.1 ∈ M.ws) (hsame : ref = (T j).1 ∨ Cond.sameField ref (T j).1 (T j).2.1 (T j).2.2.1 ∈ M.ws) (hf : fs[j]? = some (some t)) (k : gEx G M b (pc + 3) lv (.inr t :: st) σ Q) : gEx G M b pc lv (.inr o :: st) σ Q := by
  intro p l e R s m args below meth c D cy ad H locs cells slots mc ms ls C X L
  obtain ⟨i0, -, hw⟩ := gws_at (cy := cy) (ad := ad) (σ := σ) ho hs
  refine va_get (D := D) (ws := gws G cy ad σ) (tys := gtys cy) (v := .ref (ad t)) C.1.1 C.1.2.1 C.1.2.2.2.2 hin C.1.2.2.2.1 C.2.2.2.2.2.2.1 (gws_P X.1) i0 hw hc j hj (C.1.2.2.2.2 _ hl) (fun x hx => ?_) (gfl_ref ad (σ o) fs 0 j t hf) d (k p l e R s m args below meth c D cy ad H locs cells slots mc ms ls C X L)
  rcases hsame with h | h
  · rw [h]; exact hx
  · exact u_same (C.1.2.2.2.2 _ h) x hx
theorem g_put {i o ci : Nat} {fs : List (Option Nat)} {ref Cn : String} {T : u_T} {N : Nat} {ty0 : Nat → FieldType} {v : Int32} (j : Nat) (d : decode M.cc pc = .ok (.putfield i, 3)) (ho : o ∈ G.1) (hs : G.2 o = .inr (ci, fs)) (hc : vwCl[ci]? = some (Cn, T, N)) (hin : ∀ w ∈ u_ws Cn T N, w ∈ M.ws) (hty : ∀ k, k < N → parseFieldDescriptor (T k).2.2.1 = some (ty0 k)) (hnm : ∀ a, a < N → ∀ b, b < N → a ≠ b → (T a).2.1 ≠ (T b).2.1) (hj : j < N)
    (hl : Cond.fieldLink M.y.cls i ref (T j).2.1 (T j).2.2.1 ∈ M.ws) (hsame : ref = (T j).1 ∨ Cond.sameField ref (T j).1 (T j).2.1 (T j).2.2.1 ∈ M.ws) (hf : fs[j]? = some none) (hfin : (T j).2.2.2 = false) (hn : narrow (ty0 j) (.int v) = .int v) (hfit : fits (ty0 j) (.int v) = true)
    (k : gEx G M b (pc + 3) lv st (gup σ o j v) Q) : gEx G M b pc lv (.inl v :: .inr o :: st) σ Q := by
  intro p l e R s m args below meth c D cy ad H locs cells slots mc ms ls C X L
  obtain ⟨i0, hi0, hw⟩ := gws_at (cy := cy) (ad := ad) (σ := σ) ho hs
  refine va_put (D := D) (ws := gws G cy ad σ) (tys := gtys cy) (ty := ty0 j) (v := .int v) C.1.1 C.1.2.1 C.1.2.2.2.2 hin ty0 hty hnm C.1.2.2.2.1 C.2.2.2.2.2.2.1 (gws_P X.1) (gws_D C.2.2.1) X.2.1 i0 hw hc j hj (C.1.2.2.2.2 _ hl) (fun x hx => ?_) hfin (hty j hj) hn hfit (by rw [gfl_len]; exact (List.getElem?_eq_some_iff.mp hf).1) d (fun H1 locs1 hP1 hD1 hS1 => ?_)
  · rcases hsame with h | h
    · rw [h]; exact hx
    · exact u_same (C.1.2.2.2.2 _ h) x hx
  · rw [gws_set (σ' := gup σ o j v) C.2.2.1.1 hi0 (by rw [hs, gup_self]; show (Sum.inr (ci, gfl ad (upd (σ o) j v) 0 fs) : va_E) = _; rw [← gfl_upd ad (σ o) v fs 0 j hf, Nat.zero_add]) (fun a ha => gup_ne σ v ha)] at hP1
    exact k p l e R s m args below meth c D cy ad H1 locs1 cells slots mc ms ls C ⟨gP_ws hP1, hS1, X.2.2.step (fun q h => gA_new h) X.2.1 hS1⟩ L
theorem g_iald {a n : Nat} {i : Int32} (d : decode M.cc pc = .ok (.iaload, 1)) (ha : a ∈ G.1) (hs : G.2 a = .inl (0, n, none)) (hi : vp_in i n) (k : gEx G M b (pc + 1) lv (.inl (σ a i.toNatClampNeg) :: st) σ Q) : gEx G M b pc lv (.inl i :: .inr a :: st) σ Q := by
  intro p l e R s m args below meth c D cy ad H locs cells slots mc ms ls C X L
  obtain ⟨i0, -, hw⟩ := gws_at (cy := cy) (ad := ad) (σ := σ) ha hs
  exact va_iald (D := D) (ws := gws G cy ad σ) (tys := gtys cy) C.1.1 C.1.2.1 C.2.2.2.2.2.2.1 (gws_P X.1) i0 0 hw rfl hi d (k p l e R s m args below meth c D cy ad H locs cells slots mc ms ls C X L)
theorem g_zald {a n : Nat} {i : Int32} (d : decode M.cc pc = .ok (.baload, 1)) (ha : a ∈ G.1) (hs : G.2 a = .inl (1, n, none)) (hi : vp_in i n) (k : gEx G M b (pc + 1) lv (.inl (σ a i.toNatClampNeg) :: st) σ Q) : gEx G M b pc lv (.inl i :: .inr a :: st) σ Q := by
  intro p l e R s m args below meth c D cy ad H locs cells slots mc ms ls C X L
  obtain ⟨i0, -, hw⟩ := gws_at (cy := cy) (ad := ad) (σ := σ) ha hs
  exact va_zald (D := D) (ws := gws G cy ad σ) (tys := gtys cy) C.1.1 C.1.2.1 C.2.2.2.2.2.2.1 (gws_P X.1) i0 1 hw rfl hi d (k p l e R s m args below meth c D cy ad H locs cells slots mc ms ls C X L)
theorem g_iast {a n : Nat} {i x : Int32} (d : decode M.cc pc = .ok (.iastore, 1)) (ha : a ∈ G.1) (hs : G.2 a = .inl (0, n, none)) (hi : vp_in i n) (k : gEx G M b (pc + 1) lv st (gup σ a i.toNatClampNeg (x)) Q) : gEx G M b pc lv (.inl x :: .inl i :: .inr a :: st) σ Q := by
  intro p l e R s m args below meth c D cy ad H locs cells slots mc ms ls C X L
  obtain ⟨i0, hi0, hw⟩ := gws_at (cy := cy) (ad := ad) (σ := σ) ha hs
  refine va_iast (D := D) (ws := gws G cy ad σ) (tys := gtys cy) C.1.1 C.1.2.1 C.2.2.2.2.2.2.1 (gws_P X.1) (gws_D C.2.2.1) X.2.1 i0 0 hw rfl hi d (fun H1 locs1 hP1 hD1 hS1 => ?_)
  rw [gws_set (σ' := gup σ a i.toNatClampNeg (x)) C.2.2.1.1 hi0 (by rw [hs, gup_self]; rfl) (fun a ha => gup_ne σ _ ha)] at hP1
  exact k p l e R s m args below meth c D cy ad H1 locs1 cells slots mc ms ls C ⟨gP_ws hP1, hS1, X.2.2.step (fun q h => gA_new h) X.2.1 hS1⟩ L
theorem g_zast {a n : Nat} {i x : Int32} (d : decode M.cc pc = .ok (.bastore, 1)) (ha : a ∈ G.1) (hs : G.2 a = .inl (1, n, none)) (hi : vp_in i n) (k : gEx G M b (pc + 1) lv st (gup σ a i.toNatClampNeg (vp_nar .boolean x)) Q) : gEx G M b pc lv (.inl x :: .inl i :: .inr a :: st) σ Q := by
  intro p l e R s m args below meth c D cy ad H locs cells slots mc ms ls C X L
  obtain ⟨i0, hi0, hw⟩ := gws_at (cy := cy) (ad := ad) (σ := σ) ha hs
  refine va_zast (D := D) (ws := gws G cy ad σ) (tys := gtys cy) C.1.1 C.1.2.1 C.2.2.2.2.2.2.1 (gws_P X.1) (gws_D C.2.2.1) X.2.1 i0 1 hw rfl hi d (fun H1 locs1 hP1 hD1 hS1 => ?_)
  rw [gws_set (σ' := gup σ a i.toNatClampNeg (vp_nar .boolean x)) C.2.2.1.1 hi0 (by rw [hs, gup_self]; rfl) (fun a ha => gup_ne σ _ ha)] at hP1
  exact k p l e R s m args below meth c D cy ad H1 locs1 cells slots mc ms ls C ⟨gP_ws hP1, hS1, X.2.2.step (fun q h => gA_new h) X.2.1 hS1⟩ L
theorem g_alen {a ty n : Nat} {r : Option (Nat → Nat)} (v : Int32) (d : decode M.cc pc = .ok (.arraylength, 1)) (ha : a ∈ G.1) (hs : G.2 a = .inl (ty, n, r)) (ht : ty < 6) (hv : nI n = v) (k : gEx G M b (pc + 1) lv (.inl v :: st) σ Q) : gEx G M b pc lv (.inr a :: st) σ Q := by
  intro p l e R s m args below meth c D cy ad H locs cells slots mc ms ls C X L
  obtain ⟨i0, -, hw⟩ := gws_at (cy := cy) (ad := ad) (σ := σ) ha hs
  have ht6 : (gtys cy)[ty]? = some (cy ty, gty ty) := by
    rcases (show ty = 0 ∨ ty = 1 ∨ ty = 2 ∨ ty = 3 ∨ ty = 4 ∨ ty = 5 by omega) with h | h | h | h | h | h <;> subst h <;> rfl
  cases r with
  | none => exact va_alen (D := D) (ws := gws G cy ad σ) (tys := gtys cy) C.1.1 C.1.2.1 C.2.2.2.2.2.2.1 (gws_P X.1) i0 ty hw ht6 hv d (k p l e R s m args below meth c D cy ad H locs cells slots mc ms ls C X L)
  | some g => exact va_alen (D := D) (ws := gws G cy ad σ) (tys := gtys cy) C.1.1 C.1.2.1 C.2.2.2.2.2.2.1 (gws_P X.1) i0 ty hw ht6 hv d (k p l e R s m args below meth c D cy ad H locs cells slots mc ms ls C X L)
theorem g_aald2 {a n : Nat} {g : Nat → Nat} {i : Int32} (d : decode M.cc pc = .ok (.aaload, 1)) (ha : a ∈ G.1) (hs : G.2 a = .inl (2, n, some g)) (hi : vp_in i n) (k : gEx G M b (pc + 1) lv (.inr (g i.toNatClampNeg) :: st) σ Q) : gEx G M b pc lv (.inl i :: .inr a :: st) σ Q := by
  intro p l e R s m args below meth c D cy ad H locs cells slots mc ms ls C X L
  obtain ⟨i0, -, hw⟩ := gws_at (cy := cy) (ad := ad) (σ := σ) ha hs
  exact va_aldq (D := D) (C := RX0) (ws := gws G cy ad σ) (tys := gtys cy) C.1.1 C.1.2.1 C.2.2.2.2.2.2.1 (gws_P X.1) i0 2 hw rfl hi d (k p l e R s m args below meth c D cy ad H locs cells slots mc ms ls C X L)
theorem g_aald3 {a n : Nat} {g : Nat → Nat} {i : Int32} (d : decode M.cc pc = .ok (.aaload, 1)) (ha : a ∈ G.1) (hs : G.2 a = .inl (3, n, some g)) (hi : vp_in i n) (k : gEx G M b (pc + 1) lv (.inr (g i.toNatClampNeg) :: st) σ Q) : gEx G M b pc lv (.inl i :: .inr a :: st) σ Q := by
  intro p l e R s m args below meth c D cy ad H locs cells slots mc ms ls C X L
  obtain ⟨i0, -, hw⟩ := gws_at (cy := cy) (ad := ad) (σ := σ) ha hs
  exact va_aldq (D := D) (C := RX1) (ws := gws G cy ad σ) (tys := gtys cy) C.1.1 C.1.2.1 C.2.2.2.2.2.2.1 (gws_P X.1) i0 3 hw rfl hi d (k p l e R s m args below meth c D cy ad H locs cells slots mc ms ls C X L)
theorem g_aald4 {a n : Nat} {g : Nat → Nat} {i : Int32} (d : decode M.cc pc = .ok (.aaload, 1)) (ha : a ∈ G.1) (hs : G.2 a = .inl (4, n, some g)) (hi : vp_in i n) (k : gEx G M b (pc + 1) lv (.inr (g i.toNatClampNeg) :: st) σ Q) : gEx G M b pc lv (.inl i :: .inr a :: st) σ Q := by
  intro p l e R s m args below meth c D cy ad H locs cells slots mc ms ls C X L
  obtain ⟨i0, -, hw⟩ := gws_at (cy := cy) (ad := ad) (σ := σ) ha hs
  exact va_aldq (D := D) (C := RX4) (ws := gws G cy ad σ) (tys := gtys cy) C.1.1 C.1.2.1 C.2.2.2.2.2.2.1 (gws_P X.1) i0 4 hw rfl hi d (k p l e R s m args below meth c D cy ad H locs cells slots mc ms ls C X L)
theorem g_aald5 {a n : Nat} {g : Nat → Nat} {i : Int32} (d : decode M.cc pc = .ok (.aaload, 1)) (ha : a ∈ G.1) (hs : G.2 a = .inl (5, n, some g)) (hi : vp_in i n) (k : gEx G M b (pc + 1) lv (.inr (g i.toNatClampNeg) :: st) σ Q) : gEx G M b pc lv (.inl i :: .inr a :: st) σ Q := by
  intro p l e R s m args below meth c D cy ad H locs cells slots mc ms ls C X L
  obtain ⟨i0, -, hw⟩ := gws_at (cy := cy) (ad := ad) (σ := σ) ha hs
  have hlt : i.toNatClampNeg < n := Nat.not_le.mp fun q => hi (Or.inr q)
  exact W.aald (v := va_rf ((fun j => some (ad (g j))) i.toNatClampNeg)) (ty := .array .boolean) C.1.1 C.1.2.1 (gws_P X.1 i0 _ hw) ((C.2.2.2.2.2.2.1.2 5 _ rfl).1 n (fun j => va_rf ((fun j => some (ad (g j))) j))) rfl (fun q => by cases q) (by show ¬ (i < 0 ∨ (arrV _ _ _).slots.size ≤ _); rw [arrV_size]; exact hi) (by show (arrV _ _ _).slots[_]? = _; rw [arrV_read _ _ hlt]) rfl rfl d (k p l e R s m args below meth c D cy ad H locs cells slots mc ms ls C X L)
theorem g_iret {x : Int32} (d : decode M.cc pc = .ok (.ireturn, 1)) (hr : M.ret = some .int) (hq : Q (.inl (some (.inl x))) σ) : gEx G M b pc lv [.inl x] σ Q := by
  intro p l e R s m args below meth c D cy ad H locs cells slots mc ms ls C X L
  have hlocks : meth.locks = false := C.2.2.2.2.2.1
  refine vx_ret (W.widen (k := mc) (n := ms) (by have := C.2.2.2.2.2.2.2.1; omega) (by have := C.2.2.2.2.2.2.2.1; omega) ?_)
  exact W.iret (v := x) C.1.1 C.1.2.1 (C.2.2.2.2.2.2.2.2.trans hr) (fun t ht hW => ⟨⟨some (.inl x), σ, rfl, hq, by rw [ht]; exact X.1⟩, X.2.1.F ht⟩) X.2.1.2.2 d
theorem g_zret {x : Int32} (d : decode M.cc pc = .ok (.ireturn, 1)) (hr : M.ret = some .boolean) (hx : narrow .boolean (.int x) = .int x) (hq : Q (.inl (some (.inl x))) σ) : gEx G M b pc lv [.inl x] σ Q := by
  intro p l e R s m args below meth c D cy ad H locs cells slots mc ms ls C X L
  have hlocks : meth.locks = false := C.2.2.2.2.2.1
  refine vx_ret (W.widen (k := mc) (n := ms) (by have := C.2.2.2.2.2.2.2.1; omega) (by have := C.2.2.2.2.2.2.2.1; omega) ?_)
  exact W.zret (v := x) C.1.1 C.1.2.1 (C.2.2.2.2.2.2.2.2.trans hr) hx (fun t ht hW => ⟨⟨some (.inl x), σ, rfl, hq, by rw [ht]; exact X.1⟩, X.2.1.F ht⟩) X.2.1.2.2 d
theorem g_aret {x : Nat} {n : String} (d : decode M.cc pc = .ok (.areturn, 1)) (hr : M.ret = some (.object n)) (hq : Q (.inl (some (.inr x))) σ) : gEx G M b pc lv [.inr x] σ Q := by
  intro p l e R s m args below meth c D cy ad H locs cells slots mc ms ls C X L
  have hlocks : meth.locks = false := C.2.2.2.2.2.1
  refine vx_ret (W.widen (k := mc) (n := ms) (by have := C.2.2.2.2.2.2.2.1; omega) (by have := C.2.2.2.2.2.2.2.1; omega) ?_)
  exact W.aret (v := .ref (ad x)) C.1.1 C.1.2.1 (C.2.2.2.2.2.2.2.2.trans hr) (Or.inl ⟨_, rfl⟩) (Or.inr ⟨_, rfl⟩) (fun t ht hW => ⟨⟨some (.inr x), σ, rfl, hq, by rw [ht]; exact X.1⟩, X.2.1.F ht⟩) X.2.1.2.2 d
theorem g_vret (d : decode M.cc pc = .ok (.return_, 1)) (hr : M.ret = none) (hq : Q (.inl none) σ) : gEx G M b pc lv [] σ Q := by
  intro p l e R s m args below meth c D cy ad H locs cells slots mc ms ls C X L
  have hlocks : meth.locks = false := C.2.2.2.2.2.1
  refine vx_ret (W.widen (k := mc) (n := ms) (by have := C.2.2.2.2.2.2.2.1; omega) (by have := C.2.2.2.2.2.2.2.1; omega) ?_)
  exact W.vret C.1.1 C.1.2.1 (C.2.2.2.2.2.2.2.2.trans hr) (fun t ht hW => ⟨⟨none, σ, rfl, hq, by rw [ht]; exact X.1⟩, X.2.1.F ht⟩) X.2.1.2.2 d
end GR
end
section
/-! CALLS in the logic -/
theorem gPc_blind {G : gG} {D : va_G} {cy : Nat → ClassId} {ad : Nat → Nat} {sz : Nat} {as : List gAV} {σ : gSt} : FrameBlind (gPc G D cy ad sz as σ) := by
  intro a U g mk h
  obtain ⟨h1, h2, h3, h4, h5⟩ := h
  exact ⟨h1, h2, h3, va_K.moved (u := U) (U := U.calling g mk a) (Vm.Alike.refl U.vm) h4, h5.calling⟩
theorem gPc_at {G : gG} {D : va_G} {cy : Nat → ClassId} {ad : Nat → Nat} {as : List gAV} {σ : gSt} {s U : State} {H : Heap} {locs : List Loc} (X : gHx G s D cy ad σ H locs) (hK : va_K D vwCl (gtys cy) s) (hU : U.heap = H) (hW : s.WarmedH U.vm) : gPc G D cy ad H.size as σ (as.map (gv ad)).toArray U := by
  subst hU
  exact ⟨rfl, rfl, X.1, va_K.moved hW.alike hK, X.2.2.warm hW (gA_le X.2.1.1)⟩
theorem vx_run_of {p : Program} {l : Launch} {e : Env} {R : Room} {s : State} {m : MethodId} {args : Array Value} {below : List Frame} {meth : Method} {c : Code} {H : Heap} {locs : List Loc} {cells slots mc ms : Nat} {g : JFrame} {rest : List Value} {Qa : State → Outcome → State → Prop} {XC : String → State → State → Prop} {free : Addr → Prop}
    (h : va_Run p l e R s m args below meth c H locs cells slots mc ms g rest Qa free) : vx_Run p l e R s m args below meth c H locs cells slots mc ms g rest Qa XC free := fun T hT X => Or.inl (h T hT X)
/-- a contract without throws is one of the kit's -/
theorem gEM_met {G : gG} {M : gM} {b : Nat} {as : List gAV} {σ : gSt} {Q : gOut → gSt → Prop} (h : gEM G M b as σ Q) (hn : ∀ k σ', ¬ Q (.inr k) σ') {l : Launch} {D : va_G} {cy : Nat → ClassId} {ad : Nat → Nat} {sz : Nat} (hl : l.stackTraces = false) (hi : gInj G ad) :
    Met l M.y M.ws { frames := M.fr, cells := b, slots := 6 * b, locals := M.lo } (gPc G D cy ad sz as σ) (gQc G D cy ad (gA G ad sz) Q) b (6 * b) (gA G ad sz) := by
  intro p e ha hc hk s m args below hf happ hP hK
  obtain ⟨n, o, h1, h2, h3, h4⟩ := h l D cy ad sz hl hi p e ha hc hk s m args below hf happ hP hK
  refine ⟨n, o, h1, h2, h3, ?_⟩
  rcases h4 with h4 | ⟨q, e1, E, ce, L, ⟨⟨k, σ1, f1, f2, f3⟩, f4⟩, f5⟩
  · exact h4
  · exact absurd f2 (hn k σ1)
section GC
variable {G : gG} {M M' : gM} {b b' pc : Nat} {lv : List (Option gAV)} {σ : gSt} {Q Q' : gOut → gSt → Prop}
theorem g_after {p : Program} {l : Launch} {e : Env} {R : Room} {s : State} {m : MethodId} {args : Array Value} {below : List Frame} {meth : Method} {c : Code} {D : va_G} {cy : Nat → ClassId} {ad : Nat → Nat} {H : Heap} {locs : List Loc} {cells slots mc ms : Nat} {ls : Array Slot} {st0 rest : List Value} {st : List gAV} {a : Array Value}
    (C : gCx G M b p l R s m args meth c D cy ad cells slots mc ms) (X : gHx G s D cy ad σ H locs) (L : gLs ad M.nL lv ls) (hb : b' ≤ b) (hrest : rest = st.map (gv ad))
    (hr : vx_Run p l e R s m args below meth c H locs cells slots b' (6 * b') (F0 m pc ls st0) rest (gQc G D cy ad (gA G ad H.size) Q' a) (gXC G D cy ad (gA G ad H.size) Q') (gA G ad H.size))
    (kr : ∀ (v : Option gAV) (σ' : gSt), Q' (.inl v) σ' → gEx G M (b - b') (pc + 3) lv (v.toList ++ st) σ' Q) (kx : ∀ (k : Nat) (σ' : gSt), Q' (.inr k) σ' → Q (.inr k) σ') :
    W p l e R s m args below meth c H locs cells slots (vx_MQ below (gQc G D cy ad (gA G ad s.heap.size) Q) (gXC G D cy ad (gA G ad s.heap.size) Q) args s mc ms (gA G ad s.heap.size)) (F0 m pc ls st0) := by
  intro T hT Xs
  have hA1 : ∀ q, q < H.size → gA G ad H.size q → gA G ad s.heap.size q := fun q _ h => gA_le X.2.1.1 q h
  have hf1 : ∀ q, gA G ad H.size q → gA G ad s.heap.size q := fun q h => gA_le X.2.1.1 q h
  have hc9 := C.2.2.2.2.2.2.2.1
  have C1 : gCx G M (b - b') p l R s m args meth c D cy ad (cells + b') (slots + 6 * b') mc ms := ⟨C.1, C.2.1, C.2.2.1, C.2.2.2.1, C.2.2.2.2.1, C.2.2.2.2.2.1, C.2.2.2.2.2.2.1, ⟨by omega, by omega⟩, C.2.2.2.2.2.2.2.2⟩
  rcases hr T hT Xs with ⟨v, st₀, t, T', L', h0, X', hL, e1, e2, ⟨⟨v', σ', ev, hQ, hP⟩, hF⟩, step⟩ | ⟨q, st₀, t, T', L', E, ce, h0, X', hL, e1, e2, ⟨⟨k, σ', eE, hQ, hP⟩, hF⟩, hce, hcv, hcl, step⟩
  · obtain ⟨k1, k2, k3⟩ := vx_keep h0 e1 X.2.1 hA1 hf1 hL hF
    cases ev
    have X1 : gHx G s D cy ad σ' T'.heap (locs ++ L') := ⟨by rw [e1]; exact hP, k3, X.2.2.step (fun q h => gA_new h) X.2.1 k3⟩
    obtain ⟨t2, a1, b1⟩ := kr v' σ' hQ p l e R s m args below meth c D cy ad T'.heap (locs ++ L') (cells + b') (slots + 6 * b') mc ms ls C1 X1 L T' rfl X'
    refine ⟨t2, step t2 ?_, b1⟩
    have es : (v'.map (gv ad)).toList ++ rest = (v'.toList ++ st).map (gv ad) := by
      rw [hrest]
      cases v' <;> rfl
    show Steps p.tables e below (T'.setTop (F0 m (pc + 3) ls ((v'.map (gv ad)).toList ++ rest))) t2
    rw [es]
    exact a1
  · obtain ⟨k1, k2, k3⟩ := vx_keep h0 e1 X.2.1 hA1 hf1 hL hF
    subst eE
    have K : vx_W p l e R s m args below meth c T'.heap (locs ++ L') (cells + b') (slots + 6 * b') (vx_MQ below (gQc G D cy ad (gA G ad s.heap.size) Q) (gXC G D cy ad (gA G ad s.heap.size) Q) args s mc ms (gA G ad s.heap.size)) (F0 m pc ls rest) q :=
      vx_out (fun x hx => (C.2.2.2.2.1 x hx).elim) C.2.2.2.2.2.1 (by rw [e1]; exact hce) hcv hcl (fun t9 h9 _ => ⟨⟨k, σ', rfl, kx k σ' hQ, by rw [h9, e1]; exact hP⟩, k3.F h9⟩) k3.2.2 (by omega) (by omega)
    obtain ⟨t2, a1, b1⟩ := K T' rfl X'
    exact ⟨t2, step.trans a1, b1⟩
/-- a call of an object's own method -/
theorem g_callV {o ci index : Nat} {fs : List (Option Nat)} {Cn : String} {T : u_T} {N : Nat} {ws' : List Cond} (as st : List gAV) {stk : List gAV} (h : gEM G M' b' (.inr o :: as) σ Q') (d : decode M.cc pc = .ok (.invokevirtual index, 3)) (hg : GoodIn M.ws (wsV M.y.cls index Cn M'.y M'.ws)) (hw : M'.ws = Cond.code M'.y M'.cc M'.nL M'.ret :: ws')
    (hd : M'.y.cls = Cn ∧ M'.y.cls ≠ "java/lang/invoke/MethodHandle" ∧ M'.y.cls ≠ "java/lang/invoke/VarHandle" ∧ (parseMethodDescriptor M'.y.desc).map (fun d => d.parameters.length) = some as.length) (hR : M'.fr + 1 ≤ M.fr ∧ 8 + (M'.nL + 11) + M'.lo ≤ M.lo)
    (ho : o ∈ G.1) (hs : G.2 o = .inr (ci, fs)) (hc : vwCl[ci]? = some (Cn, T, N)) (hst : stk = as.reverse ++ .inr o :: st) (hl : st.length ≤ 8) (hb : b' ≤ b)
    (kr : ∀ (v : Option gAV) (σ' : gSt), Q' (.inl v) σ' → gEx G M (b - b') (pc + 3) lv (v.toList ++ st) σ' Q) (kx : ∀ (k : Nat) (σ' : gSt), Q' (.inr k) σ' → Q (.inr k) σ') : gEx G M b pc lv stk σ Q := by
  intro p l e R s m args below meth c D cy ad H locs cells slots mc ms ls C X L
  have hc9 := C.2.2.2.2.2.2.2.1
  have hr9 := C.2.2.2.1
  obtain ⟨i0, -, hw0⟩ := gws_at (cy := cy) (ad := ad) (σ := σ) ho hs
  refine g_after (b' := b') (Q' := Q') (st := st) (rest := st.map (gv ad)) (a := ((.inr o :: as).map (gv ad)).toArray) C X L hb rfl ?_ kr kx
  exact vx_runV (As := as.map (gv ad)) (rest := st.map (gv ad)) (b := ad o) C.1 (h l D cy ad H.size C.2.1 C.2.2.1) (cwV as.length C.1.2.2.2.2 hg hw rfl rfl hd ⟨by show M'.fr + 1 ≤ R.frames; omega, by show 8 + (M'.nL + 11) + M'.lo ≤ R.locals; omega⟩)
    ⟨gPc_blind, va_recv C.2.2.2.2.2.2.1 (gws_P X.1) hc hw0, fun U hU hW => gPc_at (as := .inr o :: as) X C.2.2.2.2.2.2.1 hU hW⟩ rfl (by rw [List.length_map]) (L.1) (by show stk.map (gv ad) = _; rw [hst, List.map_append, List.map_reverse]; rfl) (lv_room (by rw [gv_sum]; exact hl)) d ⟨by omega, by omega⟩
/-- a static call -/
theorem g_callS {index : Nat} {ws' : List Cond} (as st : List gAV) {stk : List gAV} (h : gEM G M' b' as σ Q') (d : decode M.cc pc = .ok (.invokestatic index, 3)) (hg : GoodIn M.ws (va_wsS M.y.cls index M'.y M'.ws)) (hw : M'.ws = Cond.code M'.y M'.cc M'.nL M'.ret :: ws')
    (hd : M'.y.cls ≠ "java/lang/invoke/MethodHandle" ∧ M'.y.cls ≠ "java/lang/invoke/VarHandle" ∧ (parseMethodDescriptor M'.y.desc).map (fun d => d.parameters.length) = some as.length) (hR : M'.fr + 1 ≤ M.fr ∧ 8 + (M'.nL + 11) + M'.lo ≤ M.lo)
    (hst : stk = as.reverse ++ st) (hl : st.length ≤ 8) (hb : b' ≤ b)
    (kr : ∀ (v : Option gAV) (σ' : gSt), Q' (.inl v) σ' → gEx G M (b - b') (pc + 3) lv (v.toList ++ st) σ' Q) (kx : ∀ (k : Nat) (σ' : gSt), Q' (.inr k) σ' → Q (.inr k) σ') : gEx G M b pc lv stk σ Q := by
  intro p l e R s m args below meth c D cy ad H locs cells slots mc ms ls C X L
  have hc9 := C.2.2.2.2.2.2.2.1
  have hr9 := C.2.2.2.1
  refine g_after (b' := b') (Q' := Q') (st := st) (rest := st.map (gv ad)) (a := (as.map (gv ad)).toArray) C X L hb rfl ?_ kr kx
  exact vx_runS (As := as.map (gv ad)) (rest := st.map (gv ad)) C.1 (h l D cy ad H.size C.2.1 C.2.2.1) (va_cwS as.length C.1.2.2.2.2 hg hw rfl rfl hd ⟨by show M'.fr + 1 ≤ R.frames; omega, by show 8 + (M'.nL + 11) + M'.lo ≤ R.locals; omega⟩)
    ⟨gPc_blind, fun U hU hW => gPc_at (as := as) X C.2.2.2.2.2.2.1 hU hW⟩ rfl (by rw [List.length_map]) (L.1) (by show stk.map (gv ad) = _; rw [hst, List.map_append, List.map_reverse]) (lv_room (by rw [gv_sum]; exact hl)) d ⟨by omega, by omega⟩
/-- a static call of a nest mate's private method, which doesn't throw -/
theorem g_callSN {index : Nat} {host : String} {ws' : List Cond} (as st : List gAV) {stk : List gAV} (h : gEM G M' b' as σ Q') (d : decode M.cc pc = .ok (.invokestatic index, 3)) (hg : GoodIn M.ws M'.ws) (hw : M'.ws = Cond.code M'.y M'.cc M'.nL M'.ret :: ws') (hn : Cond.methodLinkNest M.y.cls index M'.y host ∈ gNest) (hini : Cond.initialized M'.y.cls ∈ M.ws) (hsta : Cond.static M'.y ∈ M.ws)
    (hd : M'.y.cls ≠ "java/lang/invoke/MethodHandle" ∧ M'.y.cls ≠ "java/lang/invoke/VarHandle" ∧ (parseMethodDescriptor M'.y.desc).map (fun d => d.parameters.length) = some as.length) (hR : M'.fr + 1 ≤ M.fr ∧ 8 + (M'.nL + 11) + M'.lo ≤ M.lo)
    (hst : stk = as.reverse ++ st) (hl : st.length ≤ 8) (hb : b' ≤ b)
    (kr : ∀ (v : Option gAV) (σ' : gSt), Q' (.inl v) σ' → gEx G M (b - b') (pc + 3) lv (v.toList ++ st) σ' Q) (kx : ∀ (k : Nat) (σ' : gSt), ¬ Q' (.inr k) σ') : gEx G M b pc lv stk σ Q := by
  intro p l e R s m args below meth c D cy ad H locs cells slots mc ms ls C X L
  have hc9 := C.2.2.2.2.2.2.2.1
  have hr9 := C.2.2.2.1
  refine g_after (b' := b') (Q' := Q') (st := st) (rest := st.map (gv ad)) (a := (as.map (gv ad)).toArray) C X L hb rfl (vx_run_of ?_) kr (fun k σ' hq => absurd hq (kx k σ'))
  exact va_runSN (As := as.map (gv ad)) (rest := st.map (gv ad)) C.1 (gEM_met h kx C.2.1 C.2.2.1) ⟨va_cnB as.length C.1.2.2.2.2 hg hw rfl rfl (X.2.2.1 _ hn) (C.1.2.2.2.2 _ hini) hd ⟨by show M'.fr + 1 ≤ R.frames; omega, by show 8 + (M'.nL + 11) + M'.lo ≤ R.locals; omega⟩, C.1.2.2.2.2 _ hsta, trivial⟩
    ⟨gPc_blind, fun U hU hW => gPc_at (as := as) X C.2.2.2.2.2.2.1 hU hW⟩ rfl (by rw [List.length_map]) (L.1) (by show stk.map (gv ad) = _; rw [hst, List.map_append, List.map_reverse]) (lv_room (by rw [gv_sum]; exact hl)) d ⟨by omega, by omega⟩
end GC
end
section
abbrev mX5_init : gM := (yX5_init, cX5_init, 1, wsX5_init, 1, 20, none)
abbrev mX0_init : gM := (yX0_init, cX0_init, 2, wsX0_init, 2, 40, none)
abbrev mX6_voteOf : gM := (yX6_voteOf, cX6_voteOf, 2, wsX6_voteOf, 0, 0, (some .int))
abbrev mX0_accept : gM := (yX0_accept, cX0_accept, 4, wsX0_accept, 1, 21, none)
abbrev mX1_init : gM := (yX1_init, cX1_init, 3, wsX1_init, 2, 40, none)
abbrev mJ7_fill_53178 : gM := (yJ7_fill_53178, cJ7_fill_53178, 4, wsJ7_fill_53178, 0, 0, none)
abbrev mX1_startAsking : gM := (yX1_startAsking, cX1_startAsking, 2, wsX1_startAsking, 1, 23, none)
abbrev mX1_keeps : gM := (yX1_keeps, cX1_keeps, 3, wsX1_keeps, 0, 0, (some .boolean))
abbrev mJ6_bitCount_0f7a4 : gM := (yJ6_bitCount_0f7a4, cJ6_bitCount_0f7a4, 1, wsJ6_bitCount_0f7a4, 0, 0, (some .int))
abbrev mX1_oneMoreIsEnough : gM := (yX1_oneMoreIsEnough, cX1_oneMoreIsEnough, 1, wsX1_oneMoreIsEnough, 1, 20, (some .boolean))
abbrev mX1_sightOf : gM := (yX1_sightOf, cX1_sightOf, 4, wsX1_sightOf, 0, 0, (some .int))
abbrev mX6_ballotOf : gM := (yX6_ballotOf, cX6_ballotOf, 1, wsX6_ballotOf, 0, 0, (some .int))
abbrev mX6_wordOf : gM := (yX6_wordOf, cX6_wordOf, 1, wsX6_wordOf, 0, 0, (some .int))
abbrev mX1_outcomeAfter : gM := (yX1_outcomeAfter, cX1_outcomeAfter, 6, wsX1_outcomeAfter, 1, 23, (some .int))
abbrev mX1_decisionAfter : gM := (yX1_decisionAfter, cX1_decisionAfter, 6, wsX1_decisionAfter, 2, 48, (some .int))
abbrev mX1_see : gM := (yX1_see, cX1_see, 7, wsX1_see, 3, 73, none)
abbrev mX1_forget : gM := (yX1_forget, cX1_forget, 1, wsX1_forget, 1, 23, none)
abbrev mX2_init : gM := (yX2_init, cX2_init, 3, wsX2_init, 1, 20, none)
abbrev mX2_enter : gM := (yX2_enter, cX2_enter, 7, wsX2_enter, 1, 20, none)
abbrev mX3_init : gM := (yX3_init, cX3_init, 2, wsX3_init, 1, 20, none)
abbrev mX3_hasRoomFor : gM := (yX3_hasRoomFor, cX3_hasRoomFor, 2, wsX3_hasRoomFor, 0, 0, (some .boolean))
abbrev mX3_send : gM := (yX3_send, cX3_send, 8, wsX3_send, 0, 0, none)
abbrev mX3_attach : gM := (yX3_attach, cX3_attach, 2, wsX3_attach, 1, 60, none)
abbrev mX3_sendLike : gM := (yX3_sendLike, cX3_sendLike, 2, wsX3_sendLike, 1, 60, none)
abbrev mX3_remove : gM := (yX3_remove, cX3_remove, 2, wsX3_remove, 1, 60, none)
abbrev mX3_part : gM := (yX3_part, cX3_part, 3, wsX3_part, 0, 0, (some .int))
abbrev mX3_tidings : gM := (yX3_tidings, cX3_tidings, 3, wsX3_tidings, 0, 0, (some .int))
abbrev mX4_init : gM := (yX4_init, cX4_init, 1, wsX4_init, 2, 40, none)
abbrev mX5_forget : gM := (yX5_forget, cX5_forget, 1, wsX5_forget, 0, 0, none)
abbrev mX6_init : gM := (yX6_init, cX6_init, 6, wsX6_init, 3, 62, none)
abbrev mX6_checkOne : gM := (yX6_checkOne, cX6_checkOne, 2, wsX6_checkOne, 6, 90, none)
abbrev mX6_sendVotes : gM := (yX6_sendVotes, cX6_sendVotes, 5, wsX6_sendVotes, 1, 27, none)
abbrev mX6_propose : gM := (yX6_propose, cX6_propose, 5, wsX6_propose, 2, 51, (some .boolean))
abbrev mX6_prepare : gM := (yX6_prepare, cX6_prepare, 2, wsX6_prepare, 7, 111, (some .boolean))
abbrev mX6_refuse : gM := (yX6_refuse, cX6_refuse, 2, wsX6_refuse, 7, 111, (some .boolean))
abbrev mX6_resend : gM := (yX6_resend, cX6_resend, 4, wsX6_resend, 7, 111, (some .boolean))
abbrev mX6_question : gM := (yX6_question, cX6_question, 3, wsX6_question, 7, 111, (some .boolean))
abbrev mX6_leastOwnAbove : gM := (yX6_leastOwnAbove, cX6_leastOwnAbove, 3, wsX6_leastOwnAbove, 0, 0, (some .int))
abbrev mX6_sendDecisions : gM := (yX6_sendDecisions, cX6_sendDecisions, 3, wsX6_sendDecisions, 1, 27, none)
abbrev mX6_begin : gM := (yX6_begin, cX6_begin, 6, wsX6_begin, 7, 111, (some .int))
abbrev mX6_isUp : gM := (yX6_isUp, cX6_isUp, 3, wsX6_isUp, 0, 0, (some .boolean))
abbrev mX6_answersTo : gM := (yX6_answersTo, cX6_answersTo, 9, wsX6_answersTo, 3, 73, (some .int))
abbrev mX6_takeVote : gM := (yX6_takeVote, cX6_takeVote, 7, wsX6_takeVote, 2, 46, none)
abbrev mX6_takeVoted : gM := (yX6_takeVoted, cX6_takeVoted, 6, wsX6_takeVoted, 4, 99, none)
abbrev mJ9_floorMod_7cf53 : gM := (yJ9_floorMod_7cf53, cJ9_floorMod_7cf53, 3, wsJ9_floorMod_7cf53, 0, 0, (some .int))
abbrev mX6_leaderOf : gM := (yX6_leaderOf, cX6_leaderOf, 1, wsX6_leaderOf, 1, 22, (some .int))
abbrev mX6_takeAsk : gM := (yX6_takeAsk, cX6_takeAsk, 4, wsX6_takeAsk, 2, 81, none)
abbrev mX6_startVoting : gM := (yX6_startVoting, cX6_startVoting, 4, wsX6_startVoting, 2, 51, none)
abbrev mX6_takeTold : gM := (yX6_takeTold, cX6_takeTold, 7, wsX6_takeTold, 3, 74, none)
abbrev mX6_takeQuestion : gM := (yX6_takeQuestion, cX6_takeQuestion, 3, wsX6_takeQuestion, 1, 27, none)
abbrev mX6_take : gM := (yX6_take, cX6_take, 5, wsX6_take, 5, 124, none)
abbrev mX6_bring : gM := (yX6_bring, cX6_bring, 6, wsX6_bring, 6, 148, (some .int))
abbrev mX6_deliver : gM := (yX6_deliver, cX6_deliver, 2, wsX6_deliver, 7, 173, (some .int))
abbrev mX6_drop : gM := (yX6_drop, cX6_drop, 2, wsX6_drop, 7, 111, none)
abbrev mX6_copy : gM := (yX6_copy, cX6_copy, 2, wsX6_copy, 7, 111, (some .int))
abbrev mX6_calm : gM := (yX6_calm, cX6_calm, 3, wsX6_calm, 7, 173, (some .int))
abbrev mX6_memberOf : gM := (yX6_memberOf, cX6_memberOf, 3, wsX6_memberOf, 7, 111, (some (.object "CommitCouncil$Member")))
abbrev mX6_crash : gM := (yX6_crash, cX6_crash, 4, wsX6_crash, 8, 133, (some .boolean))
abbrev mX6_recover : gM := (yX6_recover, cX6_recover, 5, wsX6_recover, 8, 133, (some .boolean))
abbrev mX6_message : gM := (yX6_message, cX6_message, 3, wsX6_message, 7, 111, (some .int))
abbrev mX6_told : gM := (yX6_told, cX6_told, 5, wsX6_told, 7, 111, (some .int))
abbrev mX6_manager : gM := (yX6_manager, cX6_manager, 4, wsX6_manager, 7, 111, (some .int))
abbrev mX6_acceptor : gM := (yX6_acceptor, cX6_acceptor, 5, wsX6_acceptor, 7, 111, (some .int))
abbrev mX6_leader : gM := (yX6_leader, cX6_leader, 4, wsX6_leader, 7, 111, (some .int))
abbrev mX6_outcome : gM := (yX6_outcome, cX6_outcome, 3, wsX6_outcome, 7, 111, (some .int))
abbrev mX6_seen : gM := (yX6_seen, cX6_seen, 4, wsX6_seen, 7, 111, (some .int))
abbrev mX6_chosen : gM := (yX6_chosen, cX6_chosen, 2, wsX6_chosen, 7, 111, (some .int))
abbrev mX6_howManyUp : gM := (yX6_howManyUp, cX6_howManyUp, 5, wsX6_howManyUp, 8, 133, (some .int))
abbrev mX6_howManyManagers : gM := (yX6_howManyManagers, cX6_howManyManagers, 4, wsX6_howManyManagers, 0, 0, (some .int))
abbrev mX6_count : gM := (yX6_count, cX6_count, 2, wsX6_count, 9, 157, (some .int))
abbrev mX6_isBackedByChosen : gM := (yX6_isBackedByChosen, cX6_isBackedByChosen, 5, wsX6_isBackedByChosen, 0, 0, (some .boolean))
abbrev mX6_astray : gM := (yX6_astray, cX6_astray, 4, wsX6_astray, 1, 24, (some .int))
abbrev mX7_init : gM := (yX7_init, cX7_init, 5, wsX7_init, 1, 20, none)
abbrev mX7_thrown : gM := (yX7_thrown, cX7_thrown, 1, wsX7_thrown, 0, 0, (some .int))
abbrev mX7_lacks : gM := (yX7_lacks, cX7_lacks, 2, wsX7_lacks, 0, 0, (some .boolean))
abbrev mX7_isManager : gM := (yX7_isManager, cX7_isManager, 2, wsX7_isManager, 0, 0, (some .boolean))
abbrev mX7_isAcceptor : gM := (yX7_isAcceptor, cX7_isAcceptor, 2, wsX7_isAcceptor, 0, 0, (some .boolean))
abbrev mX7_isLeader : gM := (yX7_isLeader, cX7_isLeader, 1, wsX7_isLeader, 0, 0, (some .boolean))
abbrev mX7_isMessage : gM := (yX7_isMessage, cX7_isMessage, 2, wsX7_isMessage, 0, 0, (some .boolean))
abbrev mX7_of : gM := (yX7_of, cX7_of, 3, wsX7_of, 0, 0, (some .int))
abbrev mX7_sends : gM := (yX7_sends, cX7_sends, 9, wsX7_sends, 0, 0, none)
abbrev mX7_votes : gM := (yX7_votes, cX7_votes, 5, wsX7_votes, 1, 28, none)
abbrev mX7_hasRoom : gM := (yX7_hasRoom, cX7_hasRoom, 2, wsX7_hasRoom, 0, 0, (some .boolean))
abbrev mX7_becomes : gM := (yX7_becomes, cX7_becomes, 3, wsX7_becomes, 2, 52, (some .boolean))
abbrev mX7_prepare : gM := (yX7_prepare, cX7_prepare, 2, wsX7_prepare, 3, 74, (some .boolean))
abbrev mX7_refuse : gM := (yX7_refuse, cX7_refuse, 2, wsX7_refuse, 3, 74, (some .boolean))
abbrev mX7_resend : gM := (yX7_resend, cX7_resend, 2, wsX7_resend, 2, 52, (some .boolean))
abbrev mX7_question : gM := (yX7_question, cX7_question, 3, wsX7_question, 1, 28, (some .boolean))
abbrev mX7_begin : gM := (yX7_begin, cX7_begin, 4, wsX7_begin, 1, 28, (some .int))
abbrev mX7_remove : gM := (yX7_remove, cX7_remove, 3, wsX7_remove, 0, 0, none)
abbrev mX7_bits : gM := (yX7_bits, cX7_bits, 3, wsX7_bits, 0, 0, (some .int))
abbrev mX7_isMost : gM := (yX7_isMost, cX7_isMost, 2, wsX7_isMost, 0, 0, (some .boolean))
abbrev mX7_seenAt : gM := (yX7_seenAt, cX7_seenAt, 4, wsX7_seenAt, 0, 0, (some .int))
abbrev mX7_isNew : gM := (yX7_isNew, cX7_isNew, 5, wsX7_isNew, 1, 23, (some .boolean))
abbrev mX7_ballotSeen : gM := (yX7_ballotSeen, cX7_ballotSeen, 5, wsX7_ballotSeen, 2, 47, (some .int))
abbrev mX7_settled : gM := (yX7_settled, cX7_settled, 8, wsX7_settled, 3, 71, (some .int))
abbrev mX7_decided : gM := (yX7_decided, cX7_decided, 6, wsX7_decided, 4, 98, (some .int))
abbrev mX7_decides : gM := (yX7_decides, cX7_decides, 3, wsX7_decides, 5, 123, (some .boolean))
abbrev mX7_leadsTo : gM := (yX7_leadsTo, cX7_leadsTo, 4, wsX7_leadsTo, 6, 145, (some .int))
abbrev mX7_voteComes : gM := (yX7_voteComes, cX7_voteComes, 6, wsX7_voteComes, 1, 28, none)
abbrev mX7_askComes : gM := (yX7_askComes, cX7_askComes, 5, wsX7_askComes, 1, 28, none)
abbrev mX7_toldComes : gM := (yX7_toldComes, cX7_toldComes, 8, wsX7_toldComes, 2, 52, none)
abbrev mX7_votedComes : gM := (yX7_votedComes, cX7_votedComes, 6, wsX7_votedComes, 5, 123, none)
abbrev mX7_comes : gM := (yX7_comes, cX7_comes, 6, wsX7_comes, 7, 168, (some .int))
abbrev mX7_deliver : gM := (yX7_deliver, cX7_deliver, 2, wsX7_deliver, 8, 193, (some .int))
abbrev mX7_drop : gM := (yX7_drop, cX7_drop, 2, wsX7_drop, 1, 22, none)
abbrev mX7_copy : gM := (yX7_copy, cX7_copy, 3, wsX7_copy, 1, 22, (some .int))
abbrev mX7_calm : gM := (yX7_calm, cX7_calm, 3, wsX7_calm, 8, 193, (some .int))
abbrev mX7_manyOf : gM := (yX7_manyOf, cX7_manyOf, 2, wsX7_manyOf, 0, 0, (some .int))
abbrev mX7_turns : gM := (yX7_turns, cX7_turns, 6, wsX7_turns, 1, 23, (some .boolean))
abbrev mX7_crash : gM := (yX7_crash, cX7_crash, 3, wsX7_crash, 2, 48, (some .boolean))
abbrev mX7_recover : gM := (yX7_recover, cX7_recover, 3, wsX7_recover, 2, 48, (some .boolean))
abbrev mX7_message : gM := (yX7_message, cX7_message, 3, wsX7_message, 1, 22, (some .int))
abbrev mX7_told : gM := (yX7_told, cX7_told, 4, wsX7_told, 1, 22, (some .int))
abbrev mX7_manager : gM := (yX7_manager, cX7_manager, 3, wsX7_manager, 1, 21, (some .int))
abbrev mX7_acceptor : gM := (yX7_acceptor, cX7_acceptor, 4, wsX7_acceptor, 1, 21, (some .int))
abbrev mX7_leader : gM := (yX7_leader, cX7_leader, 3, wsX7_leader, 1, 22, (some .int))
abbrev mX7_outcome : gM := (yX7_outcome, cX7_outcome, 3, wsX7_outcome, 1, 21, (some .int))
abbrev mX7_seen : gM := (yX7_seen, cX7_seen, 4, wsX7_seen, 1, 23, (some .int))
abbrev mX7_chosen : gM := (yX7_chosen, cX7_chosen, 3, wsX7_chosen, 1, 22, (some .int))
abbrev mX7_count : gM := (yX7_count, cX7_count, 4, wsX7_count, 1, 21, (some .int))
abbrev mX7_astray : gM := (yX7_astray, cX7_astray, 1, wsX7_astray, 0, 0, (some .int))
abbrev mJ9_max_7cf53 : gM := (yJ9_max_7cf53, cJ9_max_7cf53, 2, wsJ9_max_7cf53, 0, 0, (some .int))
end
section
/-! A THROW in the logic: throw new E("text") -/
section GT
variable {G : gG} {M : gM} {b pc : Nat} {lv : List (Option gAV)} {st : List gAV} {σ : gSt} {Q : gOut → gSt → Prop}
theorem gEx.top {x v : gAV} (h : x = v) (k : gEx G M b pc lv (v :: st) σ Q) : gEx G M b pc lv (x :: st) σ Q := by subst h; exact k
theorem gEx.sto {σ' : gSt} (h : σ = σ') (k : gEx G M b pc lv st σ' Q) : gEx G M b pc lv st σ Q := by subst h; exact k
theorem g_throw {ik is ic : Nat} {text : String} (k : Nat)
    (hstr : ∀ (A : Nat → Prop) (U : State) (H : Heap), gEnv A U H → ∃ a, vk_R M.y.cls is text a U)
    (hfit : Bundle.fit (gE k) = true) (hnames : ∀ n ∈ ["java/lang/RuntimeException", "java/lang/Exception"], Bundle.fit n = true)
    (hk : Cond.classLink M.y.cls ik (gE k) ∈ M.ws) (hini : Cond.initialized (gE k) ∈ M.ws)
    (hat1 : ∀ w ∈ (vx_atS M.y.cls ic (gE k) ["java/lang/RuntimeException", "java/lang/Exception"]).filter goodWord, w ∈ M.ws)
    (hat2 : ∀ w ∈ (vx_atS M.y.cls ic (gE k) ["java/lang/RuntimeException", "java/lang/Exception"]).filter (fun w => !goodWord w), w ∈ gCast)
    (hgood : ∀ w ∈ Cond.classLink M.y.cls ik (gE k) :: Cond.initialized (gE k) :: vx_atS M.y.cls ic (gE k) ["java/lang/RuntimeException", "java/lang/Exception"], vx_ot w = true)
    (d0 : decode M.cc pc = .ok (.new ik, 3)) (d3 : decode M.cc (pc + 3) = .ok (.dup, 1)) (d4 : decode M.cc (pc + 4) = .ok (.ldc is, 2)) (d6 : decode M.cc (pc + 6) = .ok (.invokespecial ic, 3)) (d9 : decode M.cc (pc + 9) = .ok (.athrow, 1))
    (hR : 6 ≤ M.fr ∧ st.length + 82 ≤ M.lo) (hb : 1 ≤ b) (hq : Q (.inr k) σ) : gEx G M b pc lv st σ Q := by
  intro p l e R s m args below meth c D cy ad H locs cells slots mc ms ls C X L
  have hc9 := C.2.2.2.2.2.2.2.1
  have hr9 := C.2.2.2.1
  have hE0 : gEnv (gA G ad s.heap.size) s s.heap := X.2.2.kept (fun a _ hn => by
    have hlt : a < s.heap.size := Nat.lt_of_not_le (fun z => hn (gA_new z))
    rw [X.2.1.2.1 a hlt hn])
  obtain ⟨sa, hsa⟩ := hstr _ _ _ hE0
  obtain ⟨-, hcast, -, -, -, hU, hN⟩ := hE0
  refine vx_throwS (A := gA G ad s.heap.size) (sa := sa) (text := text) (cls := gE k) (names := ["java/lang/RuntimeException", "java/lang/Exception"]) (ik := ik) (is := is) (ic := ic) C.1.1 C.1.2.1 C.2.1 C.1.2.2.2.1 hfit hnames (C.1.2.2.2.2 _ hk) (C.1.2.2.2.2 _ hini) hsa
    (vx_hat (fun w hw => C.1.2.2.2.2 _ (hat1 w hw)) hat2 (fun w hw => ?_)) hgood hU hN X.2.1 (L.1.trans C.1.2.2.1.symm) d0 d3 d4 d6 d9 (fun x hx => (C.2.2.2.2.1 x hx).elim) (by show 2 + 3 < R.frames; omega) (by rw [gv_sum]; show st.length + (13 * (2 + 1) + 43) ≤ R.locals; omega) (by omega) (by omega) C.2.2.2.2.2.1
    (fun t _ hz hk9 => ⟨⟨k, σ, rfl, hq, gP_kept X.1 (fun a ha => hk9 _ (X.1 a ha).lt)⟩, ⟨Nat.le_trans X.2.1.1 hz, fun q h1 h2 => by rw [hk9 q (Nat.lt_of_lt_of_le h1 X.2.1.1)]; exact X.2.1.2.1 q h1 h2⟩⟩) X.2.1.2.2 (by omega) (by omega)
  have h0 := hcast w hw
  unfold gCast at hw
  simp only [List.mem_cons, List.not_mem_nil, or_false] at hw
  rcases hw with rfl | rfl | rfl | rfl | rfl <;> exact va_Nw.use rfl h0
/-- CommitCouncil.checkOne -/
theorem g_throw_one (hq : Q (.inr 0) σ) (hb : 1 ≤ b) : gEx G mX6_checkOne b 9 lv [] σ Q :=
  g_throw (ik := 190) (is := 192) (ic := 194) 0 (fun A U H h => h.2.2.2.1) (by decide +kernel) (by decide +kernel) (by decide +kernel) (by decide +kernel) (fun w hw => List.mem_cons_of_mem _ (List.mem_append_right _ hw)) (by decide +kernel) (by decide +kernel)
    (by decide +kernel) (by decide +kernel) (by decide +kernel) (by decide +kernel) (by decide +kernel) ⟨by decide, by decide⟩ hb hq
theorem g_ldcw {i : Nat} (v : Int32) (d : decode M.cc pc = .ok (.ldc_w i, 3)) (hw : Cond.constant M.y.cls i v ∈ M.ws) (k : gEx G M b (pc + 3) lv (.inl v :: st) σ Q) : gEx G M b pc lv st σ Q := by
  intro p l e R s m args below meth c D cy ad H locs cells slots mc ms ls C X L
  exact lv_ldcw C.1.1 C.1.2.1 C.1.2.2.2.1 (C.1.2.2.2.2 _ hw) d (k p l e R s m args below meth c D cy ad H locs cells slots mc ms ls C X L)
theorem g_max {i : Nat} {x y : Int32} (d : decode M.cc pc = .ok (.invokestatic i, 3)) (hl : Cond.methodLink M.y.cls i Lib.Math.max.name ∈ M.ws) (hs : Cond.static Lib.Math.max.name ∈ M.ws) (hi : Cond.initialized "java/lang/Math" ∈ M.ws) (hc : Cond.code Lib.Math.max.name Lib.Math.max.code 2 (some .int) ∈ M.ws) (hR : 1 ≤ M.fr ∧ st.length + 13 ≤ M.lo)
    (k : gEx G M b (pc + 3) lv (.inl (if x < y then y else x) :: st) σ Q) : gEx G M b pc lv (.inl y :: .inl x :: st) σ Q := by
  intro p l e R s m args below meth c D cy ad H locs cells slots mc ms ls C X L
  have hc9 := C.2.2.2.2.2.2.2.1
  have hr9 := C.2.2.2.1
  exact va_mmax C.1.1 C.1.2.1 (C.1.2.2.1.trans L.1.symm) C.1.2.2.2.1 (C.1.2.2.2.2 _ hl) (C.1.2.2.2.2 _ hs) (C.1.2.2.2.2 _ hi) (C.1.2.2.2.2 _ hc) (by omega) (by rw [gv_sum]; omega) (by omega) (by omega) d (k p l e R s m args below meth c D cy ad H locs cells slots mc ms ls C X L)
/-- System.arraycopy of ints -/
theorem g_copy {i a0 a1 n0 n1 : Nat} {sp dp n : Int32} (d : decode M.cc pc = .ok (.invokestatic i, 3)) (hl : Cond.methodLink M.y.cls i arraycopyName ∈ M.ws) (hna : Cond.native arraycopyName ∈ M.ws) (hst : Cond.static arraycopyName ∈ M.ws) (hi : Cond.initialized "java/lang/System" ∈ M.ws)
    (ha0 : a0 ∈ G.1) (hs0 : G.2 a0 = .inl (0, n0, none)) (ha1 : a1 ∈ G.1) (hs1 : G.2 a1 = .inl (0, n1, none)) (h1 : ¬ sp < 0) (h2 : ¬ dp < 0) (h3 : ¬ n < 0) (h4 : sp.toNatClampNeg + n.toNatClampNeg ≤ n0) (h5 : dp.toNatClampNeg + n.toNatClampNeg ≤ n1)
    (hR : 1 ≤ M.fr ∧ st.length + (nativeFrameWords "java/lang/System" "arraycopy" 5 + 11) ≤ M.lo)
    (k : gEx G M b (pc + 3) lv st (gur σ a1 (va_cpy (σ a0) (σ a1) sp.toNatClampNeg dp.toNatClampNeg n.toNatClampNeg)) Q) : gEx G M b pc lv (.inl n :: .inl dp :: .inr a1 :: .inl sp :: .inr a0 :: st) σ Q := by
  intro p l e R s m args below meth c D cy ad H locs cells slots mc ms ls C X L
  have hr9 := C.2.2.2.1
  obtain ⟨i0, -, hw0⟩ := gws_at (cy := cy) (ad := ad) (σ := σ) ha0 hs0
  obtain ⟨i1, hi1, hw1⟩ := gws_at (cy := cy) (ad := ad) (σ := σ) ha1 hs1
  refine va_copyi (D := D) (ws := gws G cy ad σ) (tys := gtys cy) (ty := .int) C.1.1 C.1.2.1 (C.1.2.2.1.trans L.1.symm) C.1.2.2.2.1 (C.1.2.2.2.2 _ hl) (C.1.2.2.2.2 _ hna) (C.1.2.2.2.2 _ hst) (C.1.2.2.2.2 _ hi) C.2.2.2.2.2.2.1 (gws_P X.1) (gws_D C.2.2.1) X.2.1 i0 i1 0 0 hw0 hw1 rfl rfl rfl h1 h2 h3 h4 h5 (fun _ _ => rfl) (by omega) (by rw [gv_sum]; omega) d (fun H1 locs1 hP1 hD1 hS1 => ?_)
  rw [gws_set (σ' := gur σ a1 (va_cpy (σ a0) (σ a1) sp.toNatClampNeg dp.toNatClampNeg n.toNatClampNeg)) C.2.2.1.1 hi1 (by rw [hs1, gur_self]; rfl) (fun a ha => gur_ne σ _ ha)] at hP1
  exact k p l e R s m args below meth c D cy ad H1 locs1 cells slots mc ms ls C ⟨gP_ws hP1, hS1, X.2.2.step (fun q h => gA_new h) X.2.1 hS1⟩ L
end GT
end
